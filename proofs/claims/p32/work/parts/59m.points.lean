theorem s_P_placeAt {σ : SG} {key_0 : Int} (hσ : II σ) : wp_ (fP_placeAt σ key_0) (fun zz_ => (0 ≤ zz_ ∧ (zz_ ≤ σ kP_places 0 - 1 ∨ zz_ = 0))) := by
  unfold fP_placeAt
  have hpc := ii_kP_places hσ 0
  refine wp_bd (P := fun rr_ => (0 ≤ rr_.1 ∧ (rr_.1 ≤ σ kP_places 0 - 1 ∨ rr_.1 = 0))) ?_ ?_
  · have c1 := ii_kP_places hσ 0
    refine wp_whl (fun ss_ => (0 ≤ ss_.1 ∧ (ss_.1 ≤ ss_.2 ∨ ss_.1 = 0) ∧ ss_.2 ≤ σ kP_places 0 - 1 ∧ -1 ≤ ss_.2)) (fun ss_ => (ss_.2 - ss_.1).toNat) (by (try dsimp only) <;> first | assumption | omega | ((try simp (disch := omega) only [w32_of, w64_of, w8_of]) <;> first | assumption | omega | (split <;> omega) | (refine And.intro ?_ ?_ <;> split <;> omega)) | omega) ?_
    rintro ⟨low_1, high_2⟩ y3
    try dsimp only at y3 ⊢
    have g2 := y3
    have c5 := w32_rng low_1
    have c6 := w32_rng high_2
    refine wp_if (fun c4 => ?_) (fun c4 => ?_)
    · try simp (disch := omega) only [w32_of, w64_of, w8_of, decide_eq_true_eq, decide_eq_false_iff_not, Bool.not_eq_true] at c4
      refine wp_bd (P := fun rr_ => (0 ≤ rr_.1 ∧ rr_.1 ≤ rr_.2 ∧ rr_.2 ≤ high_2 ∧ low_1 ≤ rr_.1 ∧ (low_1 < rr_.1 ∨ rr_.2 < high_2))) ?_ ?_
      · have c7 := q_idv2 (high_2 - low_1) (by (try dsimp only) <;> first | assumption | omega | ((try simp (disch := omega) only [w32_of, w64_of, w8_of]) <;> first | assumption | omega | (split <;> omega) | (refine And.intro ?_ ?_ <;> split <;> omega)) | omega)
        try simp (disch := omega) only [w32_of, w64_of, w8_of] at c7
        have c8 := w32_rng (low_1 + (q_idv (high_2 - low_1) 2))
        refine wp_rdI (by (try dsimp only) <;> first | assumption | omega | ((try simp (disch := omega) only [w32_of, w64_of, w8_of]) <;> first | assumption | omega | (split <;> omega) | (refine And.intro ?_ ?_ <;> split <;> omega)) | omega) (by (try dsimp only) <;> first | assumption | omega | ((try simp (disch := omega) only [w32_of, w64_of, w8_of]) <;> first | assumption | omega | (split <;> omega) | (refine And.intro ?_ ?_ <;> split <;> omega)) | omega) (fun x_15 e_x_15 => ?_)
        try simp (disch := omega) only [w32_of, w64_of, w8_of] at e_x_15
        have c10 := w64_rng x_15
        have c11 := w64_rng key_0
        refine wp_if (fun c9 => ?_) (fun c9 => ?_)
        · try simp (disch := omega) only [w32_of, w64_of, w8_of, decide_eq_true_eq, decide_eq_false_iff_not, Bool.not_eq_true] at c9
          exact wp_some (by (try dsimp only) <;> first | assumption | omega | ((try simp (disch := omega) only [w32_of, w64_of, w8_of]) <;> first | assumption | omega | (split <;> omega) | (refine And.intro ?_ ?_ <;> split <;> omega)) | omega)
        · try simp (disch := omega) only [w32_of, w64_of, w8_of, decide_eq_true_eq, decide_eq_false_iff_not, Bool.not_eq_true] at c9
          exact wp_some (by (try dsimp only) <;> first | assumption | omega | ((try simp (disch := omega) only [w32_of, w64_of, w8_of]) <;> first | assumption | omega | (split <;> omega) | (refine And.intro ?_ ?_ <;> split <;> omega)) | omega)
      rintro ⟨low_20, high_21⟩ _ y13
      try dsimp only at y13 ⊢
      have g12 := y13
      exact wp_some (x_inl ⟨(by (try dsimp only) <;> first | assumption | omega | ((try simp (disch := omega) only [w32_of, w64_of, w8_of]) <;> first | assumption | omega | (split <;> omega) | (refine And.intro ?_ ?_ <;> split <;> omega)) | omega), (by (try dsimp only) <;> first | assumption | omega | ((try simp (disch := omega) only [w32_of, w64_of, w8_of]) <;> first | assumption | omega | (split <;> omega) | (refine And.intro ?_ ?_ <;> split <;> omega)) | omega)⟩)
    · try simp (disch := omega) only [w32_of, w64_of, w8_of, decide_eq_true_eq, decide_eq_false_iff_not, Bool.not_eq_true] at c4
      exact wp_some (x_inr (by (try dsimp only) <;> first | assumption | omega | ((try simp (disch := omega) only [w32_of, w64_of, w8_of]) <;> first | assumption | omega | (split <;> omega) | (refine And.intro ?_ ?_ <;> split <;> omega)) | omega))
  rintro ⟨low_25, high_26⟩ _ y15
  try dsimp only at y15 ⊢
  have g14 := y15
  have c16 := ii_kP_places hσ 0
  exact wp_some (by (try dsimp only) <;> first | assumption | omega | ((try simp (disch := omega) only [w32_of, w64_of, w8_of]) <;> first | assumption | omega | (split <;> omega) | (refine And.intro ?_ ?_ <;> split <;> omega)) | omega)
theorem s_P_numberPlaces {σ : SG} {shape_0 : Nat} (hσ : II σ) (hs_shape_0 : isS shape_0) (w0 : 0 < σ (kA_points shape_0) 0 → 0 < σ kP_places 0) : wp_ (fP_numberPlaces σ shape_0) (fun zz_ => II zz_ ∧ FC [kP_numberOf, kP_placeWith] [] σ zz_) := by
  unfold fP_numberPlaces
  have c1 := iiA_points (s := shape_0) hσ (by first | assumption | decide | omega) 0
  have c2 := ii_kP_places hσ 0
  have hpc := ii_kP_places hσ 0
  have hpl := iiA_plans hσ hs_shape_0 0
  have hpt := iiA_points hσ hs_shape_0 0
  refine wp_bd (v_fillIR (σ := σ) (a_0 := 242) (a_n := 1024) (fromIndex_0 := 0) (toIndex_0 := (σ kP_places 0)) (val_0 := (-1)) hσ (by decide) (by rw [show (242 * 256 : Nat) = kP_numberOf from rfl, b_kP_numberOf]; exact ⟨by decide, by decide⟩) (by decide) (by (try dsimp only) <;> first | assumption | omega | ((try simp (disch := omega) only [w32_of, w64_of, w8_of]) <;> first | assumption | omega | (split <;> omega) | (refine And.intro ?_ ?_ <;> split <;> omega)) | omega)) ?_
  rintro σ_2 - ⟨hσ_2, flσ_2, g3⟩
  have frσ_2 : FC [kP_numberOf, kP_placeWith] [] σ σ_2 := FC_le flσ_2 (by first | decide | (rcases hE with rfl | rfl | rfl <;> decide)) (by simp)
  try simp (disch := omega) only [w32_of, w64_of, w8_of] at g3
  refine wp_bd (P := fun rr_ => II rr_.2.2 ∧ FC [kP_numberOf, kP_placeWith] [] σ rr_.2.2 ∧ (True)) ?_ ?_
  · refine wp_whl (fun ss_ => II ss_.2.2 ∧ FC [kP_numberOf, kP_placeWith] [] σ ss_.2.2 ∧ (0 ≤ ss_.2.1 ∧ ss_.2.1 ≤ 2048) ∧ (NUs ss_.2.2 ss_.1)) (fun ss_ => (2049 - ss_.2.1).toNat) ⟨hσ_2, frσ_2, (by (try dsimp only) <;> first | assumption | omega | ((try simp (disch := omega) only [w32_of, w64_of, w8_of]) <;> first | assumption | omega | (split <;> omega) | (refine And.intro ?_ ?_ <;> split <;> omega)) | omega), (by (try dsimp only) <;> (first | exact NUs_0 | assumption))⟩ ?_
    rintro ⟨number_3, i_4, σ_5⟩ y5
    try dsimp only at y5 ⊢
    obtain ⟨hσ_5, frσ_5, g4, hnu⟩ := y5
    have c7 := w32_rng i_4
    have c8 := iiA_points (s := shape_0) hσ_5 (by first | assumption | decide | omega) 0
    have c9 := congrFun (FC_points (t := shape_0) frσ_5 (by first | assumption | decide | omega) (NS_0 _)) 0
    have c10 := w32_rng (σ_5 (kA_points shape_0) 0)
    refine wp_if (fun c6 => ?_) (fun c6 => ?_)
    · try simp (disch := omega) only [w32_of, w64_of, w8_of, decide_eq_true_eq, decide_eq_false_iff_not, Bool.not_eq_true] at c6
      refine wp_rdI (by (try dsimp only) <;> first | assumption | omega | ((try simp (disch := omega) only [w32_of, w64_of, w8_of]) <;> first | assumption | omega | (split <;> omega) | (refine And.intro ?_ ?_ <;> split <;> omega)) | omega) (by (try dsimp only) <;> first | assumption | omega | ((try simp (disch := omega) only [w32_of, w64_of, w8_of]) <;> first | assumption | omega | (split <;> omega) | (refine And.intro ?_ ?_ <;> split <;> omega)) | omega) (fun x_14 e_x_14 => ?_)
      have b_x_14 : (-1000000000) ≤ x_14 ∧ x_14 ≤ 1000000000 := by rw [e_x_14]; exact iiA_x (s := shape_0) hσ_5 (by first | assumption | decide | omega) _
      rw [FC_x (t := shape_0) frσ_5 (by first | assumption | decide | omega) (NS_0 _)] at e_x_14
      try simp (disch := omega) only [w32_of, w64_of, w8_of] at e_x_14
      have c11 := iiA_x (s := shape_0) hσ_5 (by first | assumption | decide | omega) i_4
      have c12 := congrFun (FC_x (t := shape_0) frσ_5 (by first | assumption | decide | omega) (NS_0 _)) i_4
      have c13 := iiA_x (s := shape_0) hσ (by first | assumption | decide | omega) i_4
      refine wp_rdI (by (try dsimp only) <;> first | assumption | omega | ((try simp (disch := omega) only [w32_of, w64_of, w8_of]) <;> first | assumption | omega | (split <;> omega) | (refine And.intro ?_ ?_ <;> split <;> omega)) | omega) (by (try dsimp only) <;> first | assumption | omega | ((try simp (disch := omega) only [w32_of, w64_of, w8_of]) <;> first | assumption | omega | (split <;> omega) | (refine And.intro ?_ ?_ <;> split <;> omega)) | omega) (fun x_16 e_x_16 => ?_)
      have b_x_16 : (-1000000000) ≤ x_16 ∧ x_16 ≤ 1000000000 := by rw [e_x_16]; exact iiA_y (s := shape_0) hσ_5 (by first | assumption | decide | omega) _
      rw [FC_y (t := shape_0) frσ_5 (by first | assumption | decide | omega) (NS_0 _)] at e_x_16
      try simp (disch := omega) only [w32_of, w64_of, w8_of] at e_x_16
      have c14 := iiA_y (s := shape_0) hσ_5 (by first | assumption | decide | omega) i_4
      have c15 := congrFun (FC_y (t := shape_0) frσ_5 (by first | assumption | decide | omega) (NS_0 _)) i_4
      have c16 := iiA_y (s := shape_0) hσ (by first | assumption | decide | omega) i_4
      refine wp_bd (s_P_placeAt (σ := σ_5) (key_0 := (fQ_keyOf x_14 x_16)) hσ_5) ?_
      rintro x_19 - g17
      have c18 := ii_kP_places hσ_5 0
      have c19 := FC_at frσ_5 (c := kP_places) (by first | decide | (rcases hE with rfl | rfl | rfl <;> decide)) 0
      try simp (disch := omega) only [w32_of, w64_of, w8_of] at g17
      refine wp_bd (P := fun rr_ => II rr_.2 ∧ FC [kP_numberOf, kP_placeWith] [] σ rr_.2 ∧ (NUs rr_.2 rr_.1)) ?_ ?_
      · have c20 := w32_rng x_19
        refine wp_rdI (by (try dsimp only) <;> first | assumption | omega | ((try simp (disch := omega) only [w32_of, w64_of, w8_of]) <;> first | assumption | omega | (split <;> omega) | (refine And.intro ?_ ?_ <;> split <;> omega)) | omega) (by (try dsimp only) <;> first | assumption | omega | ((try simp (disch := omega) only [w32_of, w64_of, w8_of]) <;> first | assumption | omega | (split <;> omega) | (refine And.intro ?_ ?_ <;> split <;> omega)) | omega) (fun x_24 e_x_24 => ?_)
        have b_x_24 : (-1) ≤ x_24 ∧ x_24 ≤ 1023 := by rw [e_x_24]; exact ii_kP_numberOf hσ_5 _
        try simp (disch := omega) only [w32_of, w64_of, w8_of] at e_x_24
        have c21 := ii_kP_numberOf hσ_5 x_19
        have hn0 := hnu.1
        have hnl := NUs_le hnu (by omega)
        have c23 := w32_rng x_24
        refine wp_if (fun c22 => ?_) (fun c22 => ?_)
        · try simp (disch := omega) only [w32_of, w64_of, w8_of, decide_eq_true_eq, decide_eq_false_iff_not, Bool.not_eq_true] at c22
          have hna := fun (υ τ : SG) (a : υ = sg σ_5 kP_numberOf x_19 number_3) (b : τ = sg υ kP_placeWith number_3 x_19) => NUs_add hnu a b (by omega) (by omega) (by omega)
          have hn23 := (hna _ _ rfl rfl).2
          refine wp_waI hσ_5 b_kP_numberOf (by (try dsimp only) <;> first | assumption | omega | ((try simp (disch := omega) only [w32_of, w64_of, w8_of]) <;> first | assumption | omega | (split <;> omega) | (refine And.intro ?_ ?_ <;> split <;> omega)) | omega) (by (try dsimp only) <;> first | assumption | omega | ((try simp (disch := omega) only [w32_of, w64_of, w8_of]) <;> first | assumption | omega | (split <;> omega) | (refine And.intro ?_ ?_ <;> split <;> omega)) | omega) (by (try dsimp only) <;> first | assumption | omega | ((try simp (disch := omega) only [w32_of, w64_of, w8_of]) <;> first | assumption | omega | (split <;> omega) | (refine And.intro ?_ ?_ <;> split <;> omega)) | omega) (fun σ_27 hσ_27 eσ_27 => ?_)
          try simp (disch := omega) only [w32_of, w64_of, w8_of] at eσ_27
          have flσ_27 := FC_sg eσ_27 (by first | decide | (rcases hE with rfl | rfl | rfl <;> decide))
          have frσ_27 : FC [kP_numberOf, kP_placeWith] [] σ σ_27 := FC_tr frσ_5 flσ_27 (by first | decide | (rcases hE with rfl | rfl | rfl <;> decide)) (by first | decide | (rcases hE with rfl | rfl | rfl <;> decide)) (by simp) (by simp)
          have c24 := w32_rng number_3
          refine wp_waI hσ_27 b_kP_placeWith (by (try dsimp only) <;> first | assumption | omega | ((try simp (disch := omega) only [w32_of, w64_of, w8_of]) <;> first | assumption | omega | (split <;> omega) | (refine And.intro ?_ ?_ <;> split <;> omega)) | omega) (by (try dsimp only) <;> first | assumption | omega | ((try simp (disch := omega) only [w32_of, w64_of, w8_of]) <;> first | assumption | omega | (split <;> omega) | (refine And.intro ?_ ?_ <;> split <;> omega)) | omega) (by (try dsimp only) <;> first | assumption | omega | ((try simp (disch := omega) only [w32_of, w64_of, w8_of]) <;> first | assumption | omega | (split <;> omega) | (refine And.intro ?_ ?_ <;> split <;> omega)) | omega) (fun σ_29 hσ_29 eσ_29 => ?_)
          try simp (disch := omega) only [w32_of, w64_of, w8_of] at eσ_29
          have flσ_29 := FC_sg eσ_29 (by first | decide | (rcases hE with rfl | rfl | rfl <;> decide))
          have frσ_29 : FC [kP_numberOf, kP_placeWith] [] σ σ_29 := FC_tr frσ_27 flσ_29 (by first | decide | (rcases hE with rfl | rfl | rfl <;> decide)) (by first | decide | (rcases hE with rfl | rfl | rfl <;> decide)) (by simp) (by simp)
          exact wp_some ⟨hσ_29, frσ_29, (by (try dsimp only) <;> (first | exact (hna _ _ eσ_27 eσ_29).1 | exact hnu))⟩
        · try simp (disch := omega) only [w32_of, w64_of, w8_of, decide_eq_true_eq, decide_eq_false_iff_not, Bool.not_eq_true] at c22
          exact wp_some ⟨hσ_5, frσ_5, (by (try dsimp only) <;> (first | exact (hna _ _ eσ_27 eσ_29).1 | exact hnu))⟩
      rintro ⟨number_33, σ_34⟩ _ y26
      try dsimp only at y26 ⊢
      obtain ⟨hσ_34, frσ_34, g25⟩ := y26
      exact wp_some (x_inl ⟨⟨hσ_34, frσ_34, (by (try dsimp only) <;> first | assumption | omega | ((try simp (disch := omega) only [w32_of, w64_of, w8_of]) <;> first | assumption | omega | (split <;> omega) | (refine And.intro ?_ ?_ <;> split <;> omega)) | omega), (by (try dsimp only) <;> (first | exact NUs_0 | assumption))⟩, (by (try dsimp only) <;> first | assumption | omega | ((try simp (disch := omega) only [w32_of, w64_of, w8_of]) <;> first | assumption | omega | (split <;> omega) | (refine And.intro ?_ ?_ <;> split <;> omega)) | omega)⟩)
    · try simp (disch := omega) only [w32_of, w64_of, w8_of, decide_eq_true_eq, decide_eq_false_iff_not, Bool.not_eq_true] at c6
      exact wp_some (x_inr ⟨hσ_5, frσ_5, (by (try dsimp only) <;> first | assumption | omega | ((try simp (disch := omega) only [w32_of, w64_of, w8_of]) <;> first | assumption | omega | (split <;> omega) | (refine And.intro ?_ ?_ <;> split <;> omega)) | omega)⟩)
  rintro ⟨number_38, i_39, σ_40⟩ _ y28
  try dsimp only at y28 ⊢
  obtain ⟨hσ_40, frσ_40, g27⟩ := y28
  exact wp_some ⟨hσ_40, frσ_40⟩
theorem s_P_gather {σ : SG} {shape_0 : Nat} (hσ : II σ) (hs_shape_0 : isS shape_0) : wp_ (fP_gather σ shape_0) (fun zz_ => II zz_.2 ∧ FC [kP_keys, kP_numberOf, kP_placeWith, kP_placeX, kP_placeY, kP_places] [] σ zz_.2) := by
  unfold fP_gather
  have hpc := ii_kP_places hσ 0
  have hpl := iiA_plans hσ hs_shape_0 0
  have hpt := iiA_points hσ hs_shape_0 0
  refine wp_bd (P := fun rr_ => II rr_.2 ∧ FC [kP_keys, kP_numberOf, kP_placeWith, kP_placeX, kP_placeY, kP_places] [] σ rr_.2 ∧ (KYp rr_.2 (σ (kA_points shape_0) 0))) ?_ ?_
  · have c1 := iiA_points (s := shape_0) hσ (by first | assumption | decide | omega) 0
    refine wp_whl (fun ss_ => II ss_.2 ∧ FC [kP_keys, kP_numberOf, kP_placeWith, kP_placeX, kP_placeY, kP_places] [] σ ss_.2 ∧ (0 ≤ ss_.1 ∧ ss_.1 ≤ σ (kA_points shape_0) 0) ∧ (KYp ss_.2 ss_.1)) (fun ss_ => (σ (kA_points shape_0) 0 - ss_.1).toNat) ⟨hσ, (FC_refl _ _ _), (by (try dsimp only) <;> first | assumption | omega | ((try simp (disch := omega) only [w32_of, w64_of, w8_of]) <;> first | assumption | omega | (split <;> omega) | (refine And.intro ?_ ?_ <;> split <;> omega)) | omega), (by (try dsimp only) <;> (first | exact KYp_0 _ | exact KYp_add hky eσ_15 (okey_of (by omega) (by omega))))⟩ ?_
    rintro ⟨i_1, σ_2⟩ y3
    try dsimp only at y3 ⊢
    obtain ⟨hσ_2, frσ_2, g2, hky⟩ := y3
    have c5 := w32_rng i_1
    have c6 := iiA_points (s := shape_0) hσ_2 (by first | assumption | decide | omega) 0
    have c7 := congrFun (FC_points (t := shape_0) frσ_2 (by first | assumption | decide | omega) (NS_0 _)) 0
    have c8 := w32_rng (σ_2 (kA_points shape_0) 0)
    refine wp_if (fun c4 => ?_) (fun c4 => ?_)
    · try simp (disch := omega) only [w32_of, w64_of, w8_of, decide_eq_true_eq, decide_eq_false_iff_not, Bool.not_eq_true] at c4
      refine wp_rdI (by (try dsimp only) <;> first | assumption | omega | ((try simp (disch := omega) only [w32_of, w64_of, w8_of]) <;> first | assumption | omega | (split <;> omega) | (refine And.intro ?_ ?_ <;> split <;> omega)) | omega) (by (try dsimp only) <;> first | assumption | omega | ((try simp (disch := omega) only [w32_of, w64_of, w8_of]) <;> first | assumption | omega | (split <;> omega) | (refine And.intro ?_ ?_ <;> split <;> omega)) | omega) (fun x_11 e_x_11 => ?_)
      have b_x_11 : (-1000000000) ≤ x_11 ∧ x_11 ≤ 1000000000 := by rw [e_x_11]; exact iiA_x (s := shape_0) hσ_2 (by first | assumption | decide | omega) _
      rw [FC_x (t := shape_0) frσ_2 (by first | assumption | decide | omega) (NS_0 _)] at e_x_11
      try simp (disch := omega) only [w32_of, w64_of, w8_of] at e_x_11
      have c9 := iiA_x (s := shape_0) hσ_2 (by first | assumption | decide | omega) i_1
      have c10 := congrFun (FC_x (t := shape_0) frσ_2 (by first | assumption | decide | omega) (NS_0 _)) i_1
      have c11 := iiA_x (s := shape_0) hσ (by first | assumption | decide | omega) i_1
      refine wp_rdI (by (try dsimp only) <;> first | assumption | omega | ((try simp (disch := omega) only [w32_of, w64_of, w8_of]) <;> first | assumption | omega | (split <;> omega) | (refine And.intro ?_ ?_ <;> split <;> omega)) | omega) (by (try dsimp only) <;> first | assumption | omega | ((try simp (disch := omega) only [w32_of, w64_of, w8_of]) <;> first | assumption | omega | (split <;> omega) | (refine And.intro ?_ ?_ <;> split <;> omega)) | omega) (fun x_13 e_x_13 => ?_)
      have b_x_13 : (-1000000000) ≤ x_13 ∧ x_13 ≤ 1000000000 := by rw [e_x_13]; exact iiA_y (s := shape_0) hσ_2 (by first | assumption | decide | omega) _
      rw [FC_y (t := shape_0) frσ_2 (by first | assumption | decide | omega) (NS_0 _)] at e_x_13
      try simp (disch := omega) only [w32_of, w64_of, w8_of] at e_x_13
      have c12 := iiA_y (s := shape_0) hσ_2 (by first | assumption | decide | omega) i_1
      have c13 := congrFun (FC_y (t := shape_0) frσ_2 (by first | assumption | decide | omega) (NS_0 _)) i_1
      have c14 := iiA_y (s := shape_0) hσ (by first | assumption | decide | omega) i_1
      refine wp_waN hσ_2 b_kP_keys (by (try dsimp only) <;> first | assumption | omega | ((try simp (disch := omega) only [w32_of, w64_of, w8_of]) <;> first | assumption | omega | (split <;> omega) | (refine And.intro ?_ ?_ <;> split <;> omega)) | omega) (by (try dsimp only) <;> first | assumption | omega | ((try simp (disch := omega) only [w32_of, w64_of, w8_of]) <;> first | assumption | omega | (split <;> omega) | (refine And.intro ?_ ?_ <;> split <;> omega)) | omega) (fun σ_15 hσ_15 eσ_15 => ?_)
      try simp (disch := omega) only [w32_of, w64_of, w8_of] at eσ_15
      have flσ_15 := FC_sg eσ_15 (by first | decide | (rcases hE with rfl | rfl | rfl <;> decide))
      have frσ_15 : FC [kP_keys, kP_numberOf, kP_placeWith, kP_placeX, kP_placeY, kP_places] [] σ σ_15 := FC_tr frσ_2 flσ_15 (by first | decide | (rcases hE with rfl | rfl | rfl <;> decide)) (by first | decide | (rcases hE with rfl | rfl | rfl <;> decide)) (by simp) (by simp)
      exact wp_some (x_inl ⟨⟨hσ_15, frσ_15, (by (try dsimp only) <;> first | assumption | omega | ((try simp (disch := omega) only [w32_of, w64_of, w8_of]) <;> first | assumption | omega | (split <;> omega) | (refine And.intro ?_ ?_ <;> split <;> omega)) | omega), (by (try dsimp only) <;> (first | exact KYp_0 _ | exact KYp_add hky eσ_15 (okey_of (by omega) (by omega))))⟩, (by (try dsimp only) <;> first | assumption | omega | ((try simp (disch := omega) only [w32_of, w64_of, w8_of]) <;> first | assumption | omega | (split <;> omega) | (refine And.intro ?_ ?_ <;> split <;> omega)) | omega)⟩)
    · try simp (disch := omega) only [w32_of, w64_of, w8_of, decide_eq_true_eq, decide_eq_false_iff_not, Bool.not_eq_true] at c4
      exact wp_some (x_inr ⟨hσ_2, frσ_2, (by (try dsimp only) <;> (rw [show σ (kA_points shape_0) 0 = i_1 by omega]; exact hky))⟩)
  rintro ⟨i_19, σ_20⟩ _ y15
  try dsimp only at y15 ⊢
  obtain ⟨hσ_20, frσ_20, hk20⟩ := y15
  have c16 := iiA_points (s := shape_0) hσ_20 (by first | assumption | decide | omega) 0
  have c17 := congrFun (FC_points (t := shape_0) frσ_20 (by first | assumption | decide | omega) (NS_0 _)) 0
  have c18 := iiA_points (s := shape_0) hσ (by first | assumption | decide | omega) 0
  refine wp_bd (v_sortRow (σ := σ_20) (row_0 := 239) (row_n := 2048) (size_0 := (σ_20 (kA_points shape_0) 0)) hσ_20 (by decide) (by decide) (by (try simp only [FC_points (t := shape_0) frσ_20 (by first | assumption | decide | omega) (NS_0 _)]) <;> ((try dsimp only) <;> first | assumption | omega | ((try simp (disch := omega) only [w32_of, w64_of, w8_of]) <;> first | assumption | omega | (split <;> omega) | (refine And.intro ?_ ?_ <;> split <;> omega)) | omega))) ?_
  rintro σ_22 - ⟨hσ_22, flσ_22, hsb⟩
  have frσ_22 : FC [kP_keys, kP_numberOf, kP_placeWith, kP_placeX, kP_placeY, kP_places] [] σ σ_22 := FC_tr frσ_20 flσ_22 (by first | decide | (rcases hE with rfl | rfl | rfl <;> decide)) (by first | decide | (rcases hE with rfl | rfl | rfl <;> decide)) (by simp) (by simp)
  try simp only [FC_points (t := shape_0) frσ_20 (by first | assumption | decide | omega) (NS_0 _)] at hsb
  try simp (disch := omega) only [w32_of, w64_of, w8_of] at hsb
  have c19 := iiA_points (s := shape_0) hσ_22 (by first | assumption | decide | omega) 0
  have c20 := congrFun (FC_points (t := shape_0) flσ_22 (by first | assumption | decide | omega) (NS_0 _)) 0
  refine wp_bd (v_leaveEachOnce (σ := σ_22) (row_0 := 239) (row_n := 2048) (size_0 := (σ_22 (kA_points shape_0) 0)) hσ_22 (by decide) (by decide) (by (try simp only [FC_points (t := shape_0) frσ_22 (by first | assumption | decide | omega) (NS_0 _)]) <;> ((try dsimp only) <;> first | assumption | omega | ((try simp (disch := omega) only [w32_of, w64_of, w8_of]) <;> first | assumption | omega | (split <;> omega) | (refine And.intro ?_ ?_ <;> split <;> omega)) | omega))) ?_
  rintro ⟨x_25, σ_24⟩ - y21
  try dsimp only at y21 ⊢
  obtain ⟨hle, hσ_24, flσ_24, hsb2⟩ := y21
  have frσ_24 : FC [kP_keys, kP_numberOf, kP_placeWith, kP_placeX, kP_placeY, kP_places] [] σ σ_24 := FC_tr frσ_22 flσ_24 (by first | decide | (rcases hE with rfl | rfl | rfl <;> decide)) (by first | decide | (rcases hE with rfl | rfl | rfl <;> decide)) (by simp) (by simp)
  try simp only [FC_points (t := shape_0) frσ_22 (by first | assumption | decide | omega) (NS_0 _)] at hle
  try simp (disch := omega) only [w32_of, w64_of, w8_of] at hle
  try simp only [FC_points (t := shape_0) frσ_22 (by first | assumption | decide | omega) (NS_0 _)] at hsb2
  try simp (disch := omega) only [w32_of, w64_of, w8_of] at hsb2
  have hk24 : KYp σ_24 x_25 := by
    have a := KYp_sb (m := σ (kA_points shape_0) 0) hk20 (by first | exact hsb | rw [show σ_20 (kA_points shape_0) 0 = σ (kA_points shape_0) 0 from congrFun (FC_points frσ_20 hs_shape_0 (NS_0 _)) 0] at hsb; exact hsb) (Int.le_refl _)
    exact KYp_sb a (by first | exact hsb2 | rw [show σ_22 (kA_points shape_0) 0 = σ (kA_points shape_0) 0 from congrFun (FC_points frσ_22 hs_shape_0 (NS_0 _)) 0] at hsb2; exact hsb2) (by omega)
  have c23 := w32_rng x_25
  refine wp_if (fun c22 => ?_) (fun c22 => ?_)
  · try simp (disch := omega) only [w32_of, w64_of, w8_of, decide_eq_true_eq, decide_eq_false_iff_not, Bool.not_eq_true] at c22
    exact wp_some ⟨hσ_24, frσ_24⟩
  · try simp (disch := omega) only [w32_of, w64_of, w8_of, decide_eq_true_eq, decide_eq_false_iff_not, Bool.not_eq_true] at c22
    refine wp_wfI hσ_24 b_kP_places (by (try dsimp only) <;> first | assumption | omega | ((try simp (disch := omega) only [w32_of, w64_of, w8_of]) <;> first | assumption | omega | (split <;> omega) | (refine And.intro ?_ ?_ <;> split <;> omega)) | omega) (fun σ_27 hσ_27 eσ_27 => ?_)
    try simp (disch := omega) only [w32_of, w64_of, w8_of] at eσ_27
    have flσ_27 := FC_sg eσ_27 (by first | decide | (rcases hE with rfl | rfl | rfl <;> decide))
    have frσ_27 : FC [kP_keys, kP_numberOf, kP_placeWith, kP_placeX, kP_placeY, kP_places] [] σ σ_27 := FC_tr frσ_24 flσ_27 (by first | decide | (rcases hE with rfl | rfl | rfl <;> decide)) (by first | decide | (rcases hE with rfl | rfl | rfl <;> decide)) (by simp) (by simp)
    refine wp_bd (P := fun rr_ => II rr_.2 ∧ FC [kP_keys, kP_numberOf, kP_placeWith, kP_placeX, kP_placeY, kP_places] [] σ rr_.2 ∧ (rr_.2 kP_places 0 = x_25)) ?_ ?_
    · have c24 := ii_kP_places hσ_27 0
      have c25 := sg_val eσ_27
      refine wp_whl (fun ss_ => II ss_.2 ∧ FC [kP_keys, kP_numberOf, kP_placeWith, kP_placeX, kP_placeY, kP_places] [] σ ss_.2 ∧ (0 ≤ ss_.1 ∧ ss_.1 ≤ 1024) ∧ (KYp ss_.2 x_25) ∧ (ss_.2 kP_places 0 = x_25)) (fun ss_ => (1025 - ss_.1).toNat) ⟨hσ_27, frσ_27, (by (try dsimp only) <;> first | assumption | omega | ((try simp (disch := omega) only [w32_of, w64_of, w8_of]) <;> first | assumption | omega | (split <;> omega) | (refine And.intro ?_ ?_ <;> split <;> omega)) | omega), (by (try dsimp only) <;> (first | exact KYp_f flσ_27 (by decide) hk24 | exact KYp_f flσ_44 (by decide) (KYp_f flσ_40 (by decide) hk29))), (by (try dsimp only) <;> first | assumption | omega | ((try simp (disch := omega) only [w32_of, w64_of, w8_of]) <;> first | assumption | omega | (split <;> omega) | (refine And.intro ?_ ?_ <;> split <;> omega)) | omega)⟩ ?_
      rintro ⟨i_28, σ_29⟩ y28
      try dsimp only at y28 ⊢
      obtain ⟨hσ_29, frσ_29, g26, hk29, g27⟩ := y28
      have c30 := w32_rng i_28
      have c31 := ii_kP_places hσ_29 0
      have c32 := w32_rng (σ_29 kP_places 0)
      refine wp_if (fun c29 => ?_) (fun c29 => ?_)
      · try simp (disch := omega) only [w32_of, w64_of, w8_of, decide_eq_true_eq, decide_eq_false_iff_not, Bool.not_eq_true] at c29
        refine wp_rdI (by (try dsimp only) <;> first | assumption | omega | ((try simp (disch := omega) only [w32_of, w64_of, w8_of]) <;> first | assumption | omega | (split <;> omega) | (refine And.intro ?_ ?_ <;> split <;> omega)) | omega) (by (try dsimp only) <;> first | assumption | omega | ((try simp (disch := omega) only [w32_of, w64_of, w8_of]) <;> first | assumption | omega | (split <;> omega) | (refine And.intro ?_ ?_ <;> split <;> omega)) | omega) (fun x_38 e_x_38 => ?_)
        try simp (disch := omega) only [w32_of, w64_of, w8_of] at e_x_38
        have hk6 := okey_b (hk29 i_28 (by omega) (by omega))
        rw [← e_x_38] at hk6
        refine wp_waI hσ_29 b_kP_placeX (by (try dsimp only) <;> first | assumption | omega | ((try simp (disch := omega) only [w32_of, w64_of, w8_of]) <;> first | assumption | omega | (split <;> omega) | (refine And.intro ?_ ?_ <;> split <;> omega)) | omega) (by (try dsimp only) <;> first | assumption | omega | ((try simp (disch := omega) only [w32_of, w64_of, w8_of]) <;> first | assumption | omega | (split <;> omega) | (refine And.intro ?_ ?_ <;> split <;> omega)) | omega) (by (try dsimp only) <;> first | assumption | omega | ((try simp (disch := omega) only [w32_of, w64_of, w8_of]) <;> first | assumption | omega | (split <;> omega) | (refine And.intro ?_ ?_ <;> split <;> omega)) | omega) (fun σ_40 hσ_40 eσ_40 => ?_)
        try simp (disch := omega) only [w32_of, w64_of, w8_of] at eσ_40
        have flσ_40 := FC_sg eσ_40 (by first | decide | (rcases hE with rfl | rfl | rfl <;> decide))
        have frσ_40 : FC [kP_keys, kP_numberOf, kP_placeWith, kP_placeX, kP_placeY, kP_places] [] σ σ_40 := FC_tr frσ_29 flσ_40 (by first | decide | (rcases hE with rfl | rfl | rfl <;> decide)) (by first | decide | (rcases hE with rfl | rfl | rfl <;> decide)) (by simp) (by simp)
        refine wp_rdI (by (try dsimp only) <;> first | assumption | omega | ((try simp (disch := omega) only [w32_of, w64_of, w8_of]) <;> first | assumption | omega | (split <;> omega) | (refine And.intro ?_ ?_ <;> split <;> omega)) | omega) (by (try dsimp only) <;> first | assumption | omega | ((try simp (disch := omega) only [w32_of, w64_of, w8_of]) <;> first | assumption | omega | (split <;> omega) | (refine And.intro ?_ ?_ <;> split <;> omega)) | omega) (fun x_42 e_x_42 => ?_)
        try simp (disch := omega) only [w32_of, w64_of, w8_of] at e_x_42
        have c33 := FC_at flσ_40 (c := kP_keys) (by first | decide | (rcases hE with rfl | rfl | rfl <;> decide)) i_28
        have e20 : x_42 = x_38 := by omega
        rw [← e20] at hk6
        refine wp_waI hσ_40 b_kP_placeY (by (try dsimp only) <;> first | assumption | omega | ((try simp (disch := omega) only [w32_of, w64_of, w8_of]) <;> first | assumption | omega | (split <;> omega) | (refine And.intro ?_ ?_ <;> split <;> omega)) | omega) (by (try dsimp only) <;> first | assumption | omega | ((try simp (disch := omega) only [w32_of, w64_of, w8_of]) <;> first | assumption | omega | (split <;> omega) | (refine And.intro ?_ ?_ <;> split <;> omega)) | omega) (by (try dsimp only) <;> first | assumption | omega | ((try simp (disch := omega) only [w32_of, w64_of, w8_of]) <;> first | assumption | omega | (split <;> omega) | (refine And.intro ?_ ?_ <;> split <;> omega)) | omega) (fun σ_44 hσ_44 eσ_44 => ?_)
        try simp (disch := omega) only [w32_of, w64_of, w8_of] at eσ_44
        have flσ_44 := FC_sg eσ_44 (by first | decide | (rcases hE with rfl | rfl | rfl <;> decide))
        have frσ_44 : FC [kP_keys, kP_numberOf, kP_placeWith, kP_placeX, kP_placeY, kP_places] [] σ σ_44 := FC_tr frσ_40 flσ_44 (by first | decide | (rcases hE with rfl | rfl | rfl <;> decide)) (by first | decide | (rcases hE with rfl | rfl | rfl <;> decide)) (by simp) (by simp)
        have c34 := ii_kP_places hσ_44 0
        have c35 := FC_at flσ_44 (c := kP_places) (by first | decide | (rcases hE with rfl | rfl | rfl <;> decide)) 0
        have c36 := ii_kP_places hσ_40 0
        have c37 := FC_at flσ_40 (c := kP_places) (by first | decide | (rcases hE with rfl | rfl | rfl <;> decide)) 0
        exact wp_some (x_inl ⟨⟨hσ_44, frσ_44, (by (try dsimp only) <;> first | assumption | omega | ((try simp (disch := omega) only [w32_of, w64_of, w8_of]) <;> first | assumption | omega | (split <;> omega) | (refine And.intro ?_ ?_ <;> split <;> omega)) | omega), (by (try dsimp only) <;> (first | exact KYp_f flσ_27 (by decide) hk24 | exact KYp_f flσ_44 (by decide) (KYp_f flσ_40 (by decide) hk29))), (by (try dsimp only) <;> first | assumption | omega | ((try simp (disch := omega) only [w32_of, w64_of, w8_of]) <;> first | assumption | omega | (split <;> omega) | (refine And.intro ?_ ?_ <;> split <;> omega)) | omega)⟩, (by (try dsimp only) <;> first | assumption | omega | ((try simp (disch := omega) only [w32_of, w64_of, w8_of]) <;> first | assumption | omega | (split <;> omega) | (refine And.intro ?_ ?_ <;> split <;> omega)) | omega)⟩)
      · try simp (disch := omega) only [w32_of, w64_of, w8_of, decide_eq_true_eq, decide_eq_false_iff_not, Bool.not_eq_true] at c29
        exact wp_some (x_inr ⟨hσ_29, frσ_29, (by (try dsimp only) <;> first | assumption | omega | ((try simp (disch := omega) only [w32_of, w64_of, w8_of]) <;> first | assumption | omega | (split <;> omega) | (refine And.intro ?_ ?_ <;> split <;> omega)) | omega)⟩)
    rintro ⟨i_48, σ_49⟩ _ y39
    try dsimp only at y39 ⊢
    obtain ⟨hσ_49, frσ_49, g38⟩ := y39
    have c40 := iiA_points (s := shape_0) hσ_49 (by first | assumption | decide | omega) 0
    have c41 := congrFun (FC_points (t := shape_0) frσ_49 (by first | assumption | decide | omega) (NS_0 _)) 0
    have c42 := ii_kP_places hσ_49 0
    refine wp_bd (s_P_numberPlaces (σ := σ_49) (shape_0 := shape_0) hσ_49 (by first | assumption | decide | omega) (by (try simp only [FC_points (t := shape_0) frσ_49 (by first | assumption | decide | omega) (NS_0 _)]) <;> ((try dsimp only) <;> first | assumption | omega | ((try simp (disch := omega) only [w32_of, w64_of, w8_of]) <;> first | assumption | omega | (split <;> omega) | (refine And.intro ?_ ?_ <;> split <;> omega)) | omega))) ?_
    rintro σ_51 - ⟨hσ_51, flσ_51⟩
    have frσ_51 : FC [kP_keys, kP_numberOf, kP_placeWith, kP_placeX, kP_placeY, kP_places] [] σ σ_51 := FC_tr frσ_49 flσ_51 (by first | decide | (rcases hE with rfl | rfl | rfl <;> decide)) (by first | decide | (rcases hE with rfl | rfl | rfl <;> decide)) (by simp) (by simp)
    exact wp_some ⟨hσ_51, frσ_51⟩
theorem s_P_cornersBefore {σ : SG} {place_0 : Int} {corners_0 : Int} {floor_0 : Int} (hσ : II σ) (w0 : 0 ≤ place_0 ∧ place_0 ≤ 1023) (w1 : 0 ≤ corners_0 ∧ corners_0 ≤ 2050) (w2 : 2 ≤ floor_0 ∧ floor_0 ≤ 2051) : wp_ (fP_cornersBefore σ place_0 corners_0 floor_0) (fun zz_ => (0 ≤ zz_ ∧ zz_ ≤ corners_0)) := by
  unfold fP_cornersBefore
  refine wp_bd (P := fun rr_ => (0 ≤ rr_ ∧ rr_ ≤ corners_0)) ?_ ?_
  · refine wp_whl (fun ss_ => (0 ≤ ss_ ∧ ss_ ≤ corners_0)) (fun ss_ => ss_.toNat) (by (try dsimp only) <;> first | assumption | omega | ((try simp (disch := omega) only [w32_of, w64_of, w8_of]) <;> first | assumption | omega | (split <;> omega) | (refine And.intro ?_ ?_ <;> split <;> omega)) | omega) ?_
    rintro size_1 g1
    have c3 := w32_rng floor_0
    have c4 := w32_rng size_1
    refine wp_if (fun c2 => ?_) (fun c2 => ?_)
    · try simp (disch := omega) only [w32_of, w64_of, w8_of, decide_eq_true_eq, decide_eq_false_iff_not, Bool.not_eq_true] at c2
      have c5 := w32_rng (size_1 - 2)
      refine wp_rdI (by (try dsimp only) <;> first | assumption | omega | ((try simp (disch := omega) only [w32_of, w64_of, w8_of]) <;> first | assumption | omega | (split <;> omega) | (refine And.intro ?_ ?_ <;> split <;> omega)) | omega) (by (try dsimp only) <;> first | assumption | omega | ((try simp (disch := omega) only [w32_of, w64_of, w8_of]) <;> first | assumption | omega | (split <;> omega) | (refine And.intro ?_ ?_ <;> split <;> omega)) | omega) (fun x_22 e_x_22 => ?_)
      have b_x_22 : 0 ≤ x_22 ∧ x_22 ≤ 1023 := by rw [e_x_22]; exact ii_kP_corner hσ _
      try simp (disch := omega) only [w32_of, w64_of, w8_of] at e_x_22
      have c6 := ii_kP_corner hσ (size_1 - 2)
      have c7 := w32_rng (size_1 - 1)
      refine wp_rdI (by (try dsimp only) <;> first | assumption | omega | ((try simp (disch := omega) only [w32_of, w64_of, w8_of]) <;> first | assumption | omega | (split <;> omega) | (refine And.intro ?_ ?_ <;> split <;> omega)) | omega) (by (try dsimp only) <;> first | assumption | omega | ((try simp (disch := omega) only [w32_of, w64_of, w8_of]) <;> first | assumption | omega | (split <;> omega) | (refine And.intro ?_ ?_ <;> split <;> omega)) | omega) (fun x_24 e_x_24 => ?_)
      have b_x_24 : 0 ≤ x_24 ∧ x_24 ≤ 1023 := by rw [e_x_24]; exact ii_kP_corner hσ _
      try simp (disch := omega) only [w32_of, w64_of, w8_of] at e_x_24
      have c8 := ii_kP_corner hσ (size_1 - 1)
      refine wp_bd (s_P_turnAt (σ := σ) (a_0 := x_22) (b_0 := x_24) (c_0 := place_0) hσ (by (try dsimp only) <;> first | assumption | omega | ((try simp (disch := omega) only [w32_of, w64_of, w8_of]) <;> first | assumption | omega | (split <;> omega) | (refine And.intro ?_ ?_ <;> split <;> omega)) | omega) (by (try dsimp only) <;> first | assumption | omega | ((try simp (disch := omega) only [w32_of, w64_of, w8_of]) <;> first | assumption | omega | (split <;> omega) | (refine And.intro ?_ ?_ <;> split <;> omega)) | omega) (by (try dsimp only) <;> first | assumption | omega | ((try simp (disch := omega) only [w32_of, w64_of, w8_of]) <;> first | assumption | omega | (split <;> omega) | (refine And.intro ?_ ?_ <;> split <;> omega)) | omega)) ?_
      rintro x_27 - g9
      try simp (disch := omega) only [w32_of, w64_of, w8_of] at g9
      have c11 := w32_rng x_27
      refine wp_if (fun c10 => ?_) (fun c10 => ?_)
      · try simp (disch := omega) only [w32_of, w64_of, w8_of, decide_eq_true_eq, decide_eq_false_iff_not, Bool.not_eq_true] at c10
        exact wp_some (x_inl ⟨(by (try dsimp only) <;> first | assumption | omega | ((try simp (disch := omega) only [w32_of, w64_of, w8_of]) <;> first | assumption | omega | (split <;> omega) | (refine And.intro ?_ ?_ <;> split <;> omega)) | omega), (by (try dsimp only) <;> first | assumption | omega | ((try simp (disch := omega) only [w32_of, w64_of, w8_of]) <;> first | assumption | omega | (split <;> omega) | (refine And.intro ?_ ?_ <;> split <;> omega)) | omega)⟩)
      · try simp (disch := omega) only [w32_of, w64_of, w8_of, decide_eq_true_eq, decide_eq_false_iff_not, Bool.not_eq_true] at c10
        exact wp_some (x_inr (by (try dsimp only) <;> first | assumption | omega | ((try simp (disch := omega) only [w32_of, w64_of, w8_of]) <;> first | assumption | omega | (split <;> omega) | (refine And.intro ?_ ?_ <;> split <;> omega)) | omega))
    · try simp (disch := omega) only [w32_of, w64_of, w8_of, decide_eq_true_eq, decide_eq_false_iff_not, Bool.not_eq_true] at c2
      exact wp_some (x_inr (by (try dsimp only) <;> first | assumption | omega | ((try simp (disch := omega) only [w32_of, w64_of, w8_of]) <;> first | assumption | omega | (split <;> omega) | (refine And.intro ?_ ?_ <;> split <;> omega)) | omega))
  rintro size_32 _ g12
  exact wp_some (by (try dsimp only) <;> first | assumption | omega | ((try simp (disch := omega) only [w32_of, w64_of, w8_of]) <;> first | assumption | omega | (split <;> omega) | (refine And.intro ?_ ?_ <;> split <;> omega)) | omega)
theorem s_P_findCorners {σ : SG} (hσ : II σ) : wp_ (fP_findCorners σ) (fun zz_ => II zz_.2 ∧ FC [kP_corner] [] σ zz_.2 ∧ (0 ≤ zz_.1 ∧ zz_.1 ≤ 2047)) := by
  unfold fP_findCorners
  have hpc := ii_kP_places hσ 0
  refine wp_bd (P := fun rr_ => II rr_.2.2 ∧ FC [kP_corner] [] σ rr_.2.2 ∧ (0 ≤ rr_.1 ∧ rr_.1 ≤ σ kP_places 0) ∧ (0 < σ kP_places 0 → 0 < rr_.1)) ?_ ?_
  · have c1 := ii_kP_places hσ 0
    refine wp_whl (fun ss_ => II ss_.2.2 ∧ FC [kP_corner] [] σ ss_.2.2 ∧ (0 ≤ ss_.2.1 ∧ ss_.2.1 ≤ 1024) ∧ (0 ≤ ss_.1 ∧ ss_.1 ≤ ss_.2.1) ∧ (0 < ss_.2.1 → 0 < ss_.1) ∧ (ss_.2.1 ≤ σ kP_places 0)) (fun ss_ => (1025 - ss_.2.1).toNat) ⟨hσ, (FC_refl _ _ _), (by (try dsimp only) <;> first | assumption | omega | ((try simp (disch := omega) only [w32_of, w64_of, w8_of]) <;> first | assumption | omega | (split <;> omega) | (refine And.intro ?_ ?_ <;> split <;> omega)) | omega), (by (try dsimp only) <;> first | assumption | omega | ((try simp (disch := omega) only [w32_of, w64_of, w8_of]) <;> first | assumption | omega | (split <;> omega) | (refine And.intro ?_ ?_ <;> split <;> omega)) | omega), (by (try dsimp only) <;> first | assumption | omega | ((try simp (disch := omega) only [w32_of, w64_of, w8_of]) <;> first | assumption | omega | (split <;> omega) | (refine And.intro ?_ ?_ <;> split <;> omega)) | omega), (by (try dsimp only) <;> first | assumption | omega | ((try simp (disch := omega) only [w32_of, w64_of, w8_of]) <;> first | assumption | omega | (split <;> omega) | (refine And.intro ?_ ?_ <;> split <;> omega)) | omega)⟩ ?_
    rintro ⟨size_1, i_2, σ_3⟩ y6
    try dsimp only at y6 ⊢
    obtain ⟨hσ_3, frσ_3, g2, g3, g4, g5⟩ := y6
    have c8 := w32_rng i_2
    have c9 := ii_kP_places hσ_3 0
    have c10 := FC_at frσ_3 (c := kP_places) (by first | decide | (rcases hE with rfl | rfl | rfl <;> decide)) 0
    have c11 := w32_rng (σ_3 kP_places 0)
    refine wp_if (fun c7 => ?_) (fun c7 => ?_)
    · try simp (disch := omega) only [w32_of, w64_of, w8_of, decide_eq_true_eq, decide_eq_false_iff_not, Bool.not_eq_true] at c7
      refine wp_bd (s_P_cornersBefore (σ := σ_3) (place_0 := i_2) (corners_0 := size_1) (floor_0 := 2) hσ_3 (by (try dsimp only) <;> first | assumption | omega | ((try simp (disch := omega) only [w32_of, w64_of, w8_of]) <;> first | assumption | omega | (split <;> omega) | (refine And.intro ?_ ?_ <;> split <;> omega)) | omega) (by (try dsimp only) <;> first | assumption | omega | ((try simp (disch := omega) only [w32_of, w64_of, w8_of]) <;> first | assumption | omega | (split <;> omega) | (refine And.intro ?_ ?_ <;> split <;> omega)) | omega) (by (try dsimp only) <;> first | assumption | omega | ((try simp (disch := omega) only [w32_of, w64_of, w8_of]) <;> first | assumption | omega | (split <;> omega) | (refine And.intro ?_ ?_ <;> split <;> omega)) | omega)) ?_
      rintro x_13 - g12
      try simp (disch := omega) only [w32_of, w64_of, w8_of] at g12
      have c13 := w32_rng x_13
      refine wp_waI hσ_3 b_kP_corner (by (try dsimp only) <;> first | assumption | omega | ((try simp (disch := omega) only [w32_of, w64_of, w8_of]) <;> first | assumption | omega | (split <;> omega) | (refine And.intro ?_ ?_ <;> split <;> omega)) | omega) (by (try dsimp only) <;> first | assumption | omega | ((try simp (disch := omega) only [w32_of, w64_of, w8_of]) <;> first | assumption | omega | (split <;> omega) | (refine And.intro ?_ ?_ <;> split <;> omega)) | omega) (by (try dsimp only) <;> first | assumption | omega | ((try simp (disch := omega) only [w32_of, w64_of, w8_of]) <;> first | assumption | omega | (split <;> omega) | (refine And.intro ?_ ?_ <;> split <;> omega)) | omega) (fun σ_14 hσ_14 eσ_14 => ?_)
      try simp (disch := omega) only [w32_of, w64_of, w8_of] at eσ_14
      have flσ_14 := FC_sg eσ_14 (by first | decide | (rcases hE with rfl | rfl | rfl <;> decide))
      have frσ_14 : FC [kP_corner] [] σ σ_14 := FC_tr frσ_3 flσ_14 (by first | decide | (rcases hE with rfl | rfl | rfl <;> decide)) (by first | decide | (rcases hE with rfl | rfl | rfl <;> decide)) (by simp) (by simp)
      exact wp_some (x_inl ⟨⟨hσ_14, frσ_14, (by (try dsimp only) <;> first | assumption | omega | ((try simp (disch := omega) only [w32_of, w64_of, w8_of]) <;> first | assumption | omega | (split <;> omega) | (refine And.intro ?_ ?_ <;> split <;> omega)) | omega), (by (try dsimp only) <;> first | assumption | omega | ((try simp (disch := omega) only [w32_of, w64_of, w8_of]) <;> first | assumption | omega | (split <;> omega) | (refine And.intro ?_ ?_ <;> split <;> omega)) | omega), (by (try dsimp only) <;> first | assumption | omega | ((try simp (disch := omega) only [w32_of, w64_of, w8_of]) <;> first | assumption | omega | (split <;> omega) | (refine And.intro ?_ ?_ <;> split <;> omega)) | omega), (by (try dsimp only) <;> first | assumption | omega | ((try simp (disch := omega) only [w32_of, w64_of, w8_of]) <;> first | assumption | omega | (split <;> omega) | (refine And.intro ?_ ?_ <;> split <;> omega)) | omega)⟩, (by (try dsimp only) <;> first | assumption | omega | ((try simp (disch := omega) only [w32_of, w64_of, w8_of]) <;> first | assumption | omega | (split <;> omega) | (refine And.intro ?_ ?_ <;> split <;> omega)) | omega)⟩)
    · try simp (disch := omega) only [w32_of, w64_of, w8_of, decide_eq_true_eq, decide_eq_false_iff_not, Bool.not_eq_true] at c7
      exact wp_some (x_inr ⟨hσ_3, frσ_3, (by (try dsimp only) <;> first | assumption | omega | ((try simp (disch := omega) only [w32_of, w64_of, w8_of]) <;> first | assumption | omega | (split <;> omega) | (refine And.intro ?_ ?_ <;> split <;> omega)) | omega), (by (try dsimp only) <;> first | assumption | omega | ((try simp (disch := omega) only [w32_of, w64_of, w8_of]) <;> first | assumption | omega | (split <;> omega) | (refine And.intro ?_ ?_ <;> split <;> omega)) | omega)⟩)
  rintro ⟨size_18, i_19, σ_20⟩ _ y16
  try dsimp only at y16 ⊢
  obtain ⟨hσ_20, frσ_20, g14, g15⟩ := y16
  refine wp_bd (P := fun rr_ => II rr_.2.2 ∧ FC [kP_corner] [] σ rr_.2.2 ∧ (0 ≤ rr_.1 ∧ rr_.1 ≤ 2047) ∧ (0 < σ kP_places 0 → 0 < rr_.1)) ?_ ?_
  · have c17 := ii_kP_places hσ_20 0
    have c18 := FC_at frσ_20 (c := kP_places) (by first | decide | (rcases hE with rfl | rfl | rfl <;> decide)) 0
    have c19 := ii_kP_places hσ 0
    refine wp_whl (fun ss_ => II ss_.2.2 ∧ FC [kP_corner] [] σ ss_.2.2 ∧ (-2 ≤ ss_.2.1 ∧ ss_.2.1 ≤ 1022) ∧ (0 ≤ ss_.1 ∧ ss_.1 ≤ 1024 + (1022 - ss_.2.1)) ∧ (0 < σ kP_places 0 → 0 < ss_.1) ∧ (σ kP_places 0 = 0 → ss_.1 = 0) ∧ (ss_.2.1 ≤ σ kP_places 0 - 2) ∧ (σ kP_places 0 = 1 → ss_.1 ≤ 1) ∧ (-1 ≤ ss_.2.1 ∨ σ kP_places 0 = 0)) (fun ss_ => (ss_.2.1 + 2).toNat) ⟨hσ_20, frσ_20, (by (try dsimp only) <;> first | assumption | omega | ((try simp (disch := omega) only [w32_of, w64_of, w8_of]) <;> first | assumption | omega | (split <;> omega) | (refine And.intro ?_ ?_ <;> split <;> omega)) | omega), (by (try dsimp only) <;> first | assumption | omega | ((try simp (disch := omega) only [w32_of, w64_of, w8_of]) <;> first | assumption | omega | (split <;> omega) | (refine And.intro ?_ ?_ <;> split <;> omega)) | omega), (by (try dsimp only) <;> first | assumption | omega | ((try simp (disch := omega) only [w32_of, w64_of, w8_of]) <;> first | assumption | omega | (split <;> omega) | (refine And.intro ?_ ?_ <;> split <;> omega)) | omega), (by (try dsimp only) <;> first | assumption | omega | ((try simp (disch := omega) only [w32_of, w64_of, w8_of]) <;> first | assumption | omega | (split <;> omega) | (refine And.intro ?_ ?_ <;> split <;> omega)) | omega), (by (try dsimp only) <;> first | assumption | omega | ((try simp (disch := omega) only [w32_of, w64_of, w8_of]) <;> first | assumption | omega | (split <;> omega) | (refine And.intro ?_ ?_ <;> split <;> omega)) | omega), (by (try dsimp only) <;> first | assumption | omega | ((try simp (disch := omega) only [w32_of, w64_of, w8_of]) <;> first | assumption | omega | (split <;> omega) | (refine And.intro ?_ ?_ <;> split <;> omega)) | omega), (by (try dsimp only) <;> first | assumption | omega | ((try simp (disch := omega) only [w32_of, w64_of, w8_of]) <;> first | assumption | omega | (split <;> omega) | (refine And.intro ?_ ?_ <;> split <;> omega)) | omega)⟩ ?_
    rintro ⟨size_21, i_22, σ_23⟩ y27
    try dsimp only at y27 ⊢
    obtain ⟨hσ_23, frσ_23, g20, g21, g22, g23, g24, g25, g26⟩ := y27
    have c29 := w32_rng i_22
    refine wp_if (fun c28 => ?_) (fun c28 => ?_)
    · try simp (disch := omega) only [w32_of, w64_of, w8_of, decide_eq_true_eq, decide_eq_false_iff_not, Bool.not_eq_true] at c28
      refine wp_bd (s_P_cornersBefore (σ := σ_23) (place_0 := i_22) (corners_0 := size_21) (floor_0 := (size_18 + 1)) hσ_23 (by (try dsimp only) <;> first | assumption | omega | ((try simp (disch := omega) only [w32_of, w64_of, w8_of]) <;> first | assumption | omega | (split <;> omega) | (refine And.intro ?_ ?_ <;> split <;> omega)) | omega) (by (try dsimp only) <;> first | assumption | omega | ((try simp (disch := omega) only [w32_of, w64_of, w8_of]) <;> first | assumption | omega | (split <;> omega) | (refine And.intro ?_ ?_ <;> split <;> omega)) | omega) (by (try dsimp only) <;> first | assumption | omega | ((try simp (disch := omega) only [w32_of, w64_of, w8_of]) <;> first | assumption | omega | (split <;> omega) | (refine And.intro ?_ ?_ <;> split <;> omega)) | omega)) ?_
      rintro x_33 - g30
      try simp (disch := omega) only [w32_of, w64_of, w8_of] at g30
      have c31 := w32_rng x_33
      refine wp_waI hσ_23 b_kP_corner (by (try dsimp only) <;> first | assumption | omega | ((try simp (disch := omega) only [w32_of, w64_of, w8_of]) <;> first | assumption | omega | (split <;> omega) | (refine And.intro ?_ ?_ <;> split <;> omega)) | omega) (by (try dsimp only) <;> first | assumption | omega | ((try simp (disch := omega) only [w32_of, w64_of, w8_of]) <;> first | assumption | omega | (split <;> omega) | (refine And.intro ?_ ?_ <;> split <;> omega)) | omega) (by (try dsimp only) <;> first | assumption | omega | ((try simp (disch := omega) only [w32_of, w64_of, w8_of]) <;> first | assumption | omega | (split <;> omega) | (refine And.intro ?_ ?_ <;> split <;> omega)) | omega) (fun σ_34 hσ_34 eσ_34 => ?_)
      try simp (disch := omega) only [w32_of, w64_of, w8_of] at eσ_34
      have flσ_34 := FC_sg eσ_34 (by first | decide | (rcases hE with rfl | rfl | rfl <;> decide))
      have frσ_34 : FC [kP_corner] [] σ σ_34 := FC_tr frσ_23 flσ_34 (by first | decide | (rcases hE with rfl | rfl | rfl <;> decide)) (by first | decide | (rcases hE with rfl | rfl | rfl <;> decide)) (by simp) (by simp)
      exact wp_some (x_inl ⟨⟨hσ_34, frσ_34, (by (try dsimp only) <;> first | assumption | omega | ((try simp (disch := omega) only [w32_of, w64_of, w8_of]) <;> first | assumption | omega | (split <;> omega) | (refine And.intro ?_ ?_ <;> split <;> omega)) | omega), (by (try dsimp only) <;> first | assumption | omega | ((try simp (disch := omega) only [w32_of, w64_of, w8_of]) <;> first | assumption | omega | (split <;> omega) | (refine And.intro ?_ ?_ <;> split <;> omega)) | omega), (by (try dsimp only) <;> first | assumption | omega | ((try simp (disch := omega) only [w32_of, w64_of, w8_of]) <;> first | assumption | omega | (split <;> omega) | (refine And.intro ?_ ?_ <;> split <;> omega)) | omega), (by (try dsimp only) <;> first | assumption | omega | ((try simp (disch := omega) only [w32_of, w64_of, w8_of]) <;> first | assumption | omega | (split <;> omega) | (refine And.intro ?_ ?_ <;> split <;> omega)) | omega), (by (try dsimp only) <;> first | assumption | omega | ((try simp (disch := omega) only [w32_of, w64_of, w8_of]) <;> first | assumption | omega | (split <;> omega) | (refine And.intro ?_ ?_ <;> split <;> omega)) | omega), (by (try dsimp only) <;> first | assumption | omega | ((try simp (disch := omega) only [w32_of, w64_of, w8_of]) <;> first | assumption | omega | (split <;> omega) | (refine And.intro ?_ ?_ <;> split <;> omega)) | omega), (by (try dsimp only) <;> first | assumption | omega | ((try simp (disch := omega) only [w32_of, w64_of, w8_of]) <;> first | assumption | omega | (split <;> omega) | (refine And.intro ?_ ?_ <;> split <;> omega)) | omega)⟩, (by (try dsimp only) <;> first | assumption | omega | ((try simp (disch := omega) only [w32_of, w64_of, w8_of]) <;> first | assumption | omega | (split <;> omega) | (refine And.intro ?_ ?_ <;> split <;> omega)) | omega)⟩)
    · try simp (disch := omega) only [w32_of, w64_of, w8_of, decide_eq_true_eq, decide_eq_false_iff_not, Bool.not_eq_true] at c28
      exact wp_some (x_inr ⟨hσ_23, frσ_23, (by (try dsimp only) <;> first | assumption | omega | ((try simp (disch := omega) only [w32_of, w64_of, w8_of]) <;> first | assumption | omega | (split <;> omega) | (refine And.intro ?_ ?_ <;> split <;> omega)) | omega), (by (try dsimp only) <;> first | assumption | omega | ((try simp (disch := omega) only [w32_of, w64_of, w8_of]) <;> first | assumption | omega | (split <;> omega) | (refine And.intro ?_ ?_ <;> split <;> omega)) | omega)⟩)
  rintro ⟨size_38, i_39, σ_40⟩ _ y34
  try dsimp only at y34 ⊢
  obtain ⟨hσ_40, frσ_40, g32, g33⟩ := y34
  have c35 := ii_kP_places hσ_40 0
  have c36 := FC_at frσ_40 (c := kP_places) (by first | decide | (rcases hE with rfl | rfl | rfl <;> decide)) 0
  have c37 := ii_kP_places hσ 0
  exact wp_some ⟨hσ_40, frσ_40, (by (try dsimp only) <;> first | assumption | omega | ((try simp (disch := omega) only [w32_of, w64_of, w8_of]) <;> first | assumption | omega | (split <;> omega) | (refine And.intro ?_ ?_ <;> split <;> omega)) | omega)⟩
theorem s_P_span {σ : SG} {into_0 : Nat} (hσ : II σ) (hs_into_0 : isS into_0) : wp_ (fP_span σ into_0) (fun zz_ => II zz_.2 ∧ FC [kP_corner] [into_0] σ zz_.2 ∧ (0 ≤ zz_.1) ∧ (SHa zz_.2 into_0)) := by
  unfold fP_span
  refine wp_bd (s_P_findCorners (σ := σ) hσ) ?_
  rintro ⟨x_3, σ_2⟩ - y2
  try dsimp only at y2 ⊢
  obtain ⟨hσ_2, flσ_2, g1⟩ := y2
  have frσ_2 : FC [kP_corner] [into_0] σ σ_2 := FC_le flσ_2 (by first | decide | (rcases hE with rfl | rfl | rfl <;> decide)) (by simp)
  try simp (disch := omega) only [w32_of, w64_of, w8_of] at g1
  refine wp_bd (v_clearA (σ := σ_2) (this_0 := into_0) hσ_2 (by first | assumption | decide | omega)) ?_
  rintro σ_5 - ⟨hσ_5, flσ_5, hc1, hc2⟩
  have frσ_5 : FC [kP_corner] [into_0] σ σ_5 := FC_tr frσ_2 flσ_5 (by first | decide | (rcases hE with rfl | rfl | rfl <;> decide)) (by first | decide | (rcases hE with rfl | rfl | rfl <;> decide)) (by simp) (by simp)
  have c3 := iiA_plans (s := into_0) hσ_5 (by first | assumption | decide | omega) 0
  try simp (disch := omega) only [w32_of, w64_of, w8_of] at hc1
  have c4 := iiA_points (s := into_0) hσ_5 (by first | assumption | decide | omega) 0
  try simp (disch := omega) only [w32_of, w64_of, w8_of] at hc2
  refine wp_bd (P := fun rr_ => II rr_ ∧ FC [kP_corner] [into_0] σ rr_ ∧ (rr_ (kA_points into_0) 0 = 0) ∧ (SP_ (rr_ (kA_plan into_0)) (rr_ (kA_plans into_0) 0) x_3)) ?_ ?_
  · have c6 := w32_rng x_3
    refine wp_if (fun c5 => ?_) (fun c5 => ?_)
    · try simp (disch := omega) only [w32_of, w64_of, w8_of, decide_eq_true_eq, decide_eq_false_iff_not, Bool.not_eq_true] at c5
      refine wp_bd (v_addShape (σ := σ_5) (this_0 := into_0) (kind_0 := 7) (parts_0 := 0) hσ_5 (by first | assumption | decide | omega)) ?_
      rintro ⟨x_13, σ_12⟩ - y7
      try dsimp only at y7 ⊢
      obtain ⟨hσ_12, flσ_12, a1, a2, a3, a4, a5, a6⟩ := y7
      have frσ_12 : FC [kP_corner] [into_0] σ σ_12 := FC_tr frσ_5 flσ_12 (by first | decide | (rcases hE with rfl | rfl | rfl <;> decide)) (by first | decide | (rcases hE with rfl | rfl | rfl <;> decide)) (by simp) (by simp)
      try simp (disch := omega) only [w32_of, w64_of, w8_of] at a1
      try simp (disch := omega) only [w32_of, w64_of, w8_of] at a2
      have c8 := iiA_plans (s := into_0) hσ_12 (by first | assumption | decide | omega) 0
      try simp (disch := omega) only [w32_of, w64_of, w8_of] at a3
      try simp (disch := omega) only [w32_of, w64_of, w8_of] at a4
      try simp (disch := omega) only [w32_of, w64_of, w8_of] at a5
      try simp (disch := omega) only [w32_of, w64_of, w8_of] at a6
      have c9 := iiA_points (s := into_0) hσ_12 (by first | assumption | decide | omega) 0
      exact wp_some ⟨hσ_12, frσ_12, (by (try dsimp only) <;> (first | assumption | (have q1 := congrFun a4 0; omega))), (by (try dsimp only) <;> (first | exact hsp33 | (have h9 := a3 (a1.mpr (by omega)); rw [hc1] at h9; exact Or.inl ⟨by omega, by omega, h9.2.1, h9.2.2.1⟩)))⟩
    · try simp (disch := omega) only [w32_of, w64_of, w8_of, decide_eq_true_eq, decide_eq_false_iff_not, Bool.not_eq_true] at c5
      refine wp_bd (P := fun rr_ => II rr_ ∧ FC [kP_corner] [into_0] σ rr_ ∧ (rr_ (kA_points into_0) 0 = 0) ∧ (SP_ (rr_ (kA_plan into_0)) (rr_ (kA_plans into_0) 0) x_3)) ?_ ?_
      · refine wp_if (fun c10 => ?_) (fun c10 => ?_)
        · try simp (disch := omega) only [w32_of, w64_of, w8_of, decide_eq_true_eq, decide_eq_false_iff_not, Bool.not_eq_true] at c10
          refine wp_bd (v_addShape (σ := σ_5) (this_0 := into_0) (kind_0 := (if ((w32 x_3) = 1) then 1 else 2)) (parts_0 := x_3) hσ_5 (by first | assumption | decide | omega)) ?_
          rintro ⟨x_23, σ_22⟩ - y11
          try dsimp only at y11 ⊢
          obtain ⟨hσ_22, flσ_22, b1, b2, b3, b4, b5, b6⟩ := y11
          have frσ_22 : FC [kP_corner] [into_0] σ σ_22 := FC_tr frσ_5 flσ_22 (by first | decide | (rcases hE with rfl | rfl | rfl <;> decide)) (by first | decide | (rcases hE with rfl | rfl | rfl <;> decide)) (by simp) (by simp)
          try simp (disch := omega) only [w32_of, w64_of, w8_of] at b1
          try simp (disch := omega) only [w32_of, w64_of, w8_of] at b2
          have c12 := iiA_plans (s := into_0) hσ_22 (by first | assumption | decide | omega) 0
          try simp (disch := omega) only [w32_of, w64_of, w8_of] at b3
          try simp (disch := omega) only [w32_of, w64_of, w8_of] at b4
          try simp (disch := omega) only [w32_of, w64_of, w8_of] at b5
          try simp (disch := omega) only [w32_of, w64_of, w8_of] at b6
          have c13 := iiA_points (s := into_0) hσ_22 (by first | assumption | decide | omega) 0
          exact wp_some ⟨hσ_22, frσ_22, (by (try dsimp only) <;> (first | (have q1 := congrFun b4 0; omega) | (have q1 := congrFun c4 0; have q2 := congrFun d4 0; omega))), (by (try dsimp only) <;> (first | (have h9 := b3 (b1.mpr (by omega)); rw [hc1] at h9; exact Or.inr (Or.inl ⟨by omega, by omega, by rw [h9.2.1]; split <;> omega, h9.2.2.1⟩)) | (have h9 := c3 (c1.mpr (by omega)); rw [hc1] at h9; have h8 := d3 (d1.mpr (by omega)); have h7 := h8.2.2 0 (by omega); have h6 := h8.2.2 1 (by omega); have h5 := h8.2.1; rw [show σ_27 (kA_plans into_0) 0 = 2 by omega] at h5; exact Or.inr (Or.inr ⟨by omega, by omega, by rw [h7]; exact h9.2.1, by rw [h6]; exact h9.2.2.1, h5⟩))))⟩
        · try simp (disch := omega) only [w32_of, w64_of, w8_of, decide_eq_true_eq, decide_eq_false_iff_not, Bool.not_eq_true] at c10
          refine wp_bd (v_addShape (σ := σ_5) (this_0 := into_0) (kind_0 := 3) (parts_0 := 1) hσ_5 (by first | assumption | decide | omega)) ?_
          rintro ⟨x_28, σ_27⟩ - y14
          try dsimp only at y14 ⊢
          obtain ⟨hσ_27, flσ_27, c1, c2, c3, c4, c5, c6⟩ := y14
          have frσ_27 : FC [kP_corner] [into_0] σ σ_27 := FC_tr frσ_5 flσ_27 (by first | decide | (rcases hE with rfl | rfl | rfl <;> decide)) (by first | decide | (rcases hE with rfl | rfl | rfl <;> decide)) (by simp) (by simp)
          try simp (disch := omega) only [w32_of, w64_of, w8_of] at c1
          try simp (disch := omega) only [w32_of, w64_of, w8_of] at c2
          have c15 := iiA_plans (s := into_0) hσ_27 (by first | assumption | decide | omega) 0
          try simp (disch := omega) only [w32_of, w64_of, w8_of] at c3
          try simp (disch := omega) only [w32_of, w64_of, w8_of] at c4
          try simp (disch := omega) only [w32_of, w64_of, w8_of] at c5
          try simp (disch := omega) only [w32_of, w64_of, w8_of] at c6
          refine wp_bd (v_addRing (σ := σ_27) (this_0 := into_0) (length_0 := (x_3 + 1)) hσ_27 (by first | assumption | decide | omega)) ?_
          rintro ⟨x_31, σ_30⟩ - y16
          try dsimp only at y16 ⊢
          obtain ⟨hσ_30, flσ_30, d1, d2, d3, d4, d5, d6⟩ := y16
          have frσ_30 : FC [kP_corner] [into_0] σ σ_30 := FC_tr frσ_27 flσ_30 (by first | decide | (rcases hE with rfl | rfl | rfl <;> decide)) (by first | decide | (rcases hE with rfl | rfl | rfl <;> decide)) (by simp) (by simp)
          try simp (disch := omega) only [w32_of, w64_of, w8_of] at d1
          try simp (disch := omega) only [w32_of, w64_of, w8_of] at d2
          have c17 := iiA_plans (s := into_0) hσ_30 (by first | assumption | decide | omega) 0
          try simp (disch := omega) only [w32_of, w64_of, w8_of] at d3
          try simp (disch := omega) only [w32_of, w64_of, w8_of] at d4
          try simp (disch := omega) only [w32_of, w64_of, w8_of] at d5
          try simp (disch := omega) only [w32_of, w64_of, w8_of] at d6
          have c18 := iiA_points (s := into_0) hσ_30 (by first | assumption | decide | omega) 0
          exact wp_some ⟨hσ_30, frσ_30, (by (try dsimp only) <;> (first | (have q1 := congrFun b4 0; omega) | (have q1 := congrFun c4 0; have q2 := congrFun d4 0; omega))), (by (try dsimp only) <;> (first | (have h9 := b3 (b1.mpr (by omega)); rw [hc1] at h9; exact Or.inr (Or.inl ⟨by omega, by omega, by rw [h9.2.1]; split <;> omega, h9.2.2.1⟩)) | (have h9 := c3 (c1.mpr (by omega)); rw [hc1] at h9; have h8 := d3 (d1.mpr (by omega)); have h7 := h8.2.2 0 (by omega); have h6 := h8.2.2 1 (by omega); have h5 := h8.2.1; rw [show σ_27 (kA_plans into_0) 0 = 2 by omega] at h5; exact Or.inr (Or.inr ⟨by omega, by omega, by rw [h7]; exact h9.2.1, by rw [h6]; exact h9.2.2.1, h5⟩))))⟩
      rintro σ_33 _ ⟨hσ_33, frσ_33, g19, hsp33⟩
      have c20 := iiA_points (s := into_0) hσ_33 (by first | assumption | decide | omega) 0
      have c21 := iiA_plans (s := into_0) hσ_33 (by first | assumption | decide | omega) 0
      exact wp_some ⟨hσ_33, frσ_33, (by (try dsimp only) <;> (first | assumption | (have q1 := congrFun a4 0; omega))), (by (try dsimp only) <;> (first | exact hsp33 | (have h9 := a3 (a1.mpr (by omega)); rw [hc1] at h9; exact Or.inl ⟨by omega, by omega, h9.2.1, h9.2.2.1⟩)))⟩
  rintro σ_36 _ ⟨hσ_36, frσ_36, g22, hsp⟩
  refine wp_bd (P := fun rr_ => II rr_.2 ∧ FC [kP_corner] [into_0] σ rr_.2 ∧ (rr_.2 (kA_points into_0) 0 = x_3) ∧ (rr_.2 (kA_plans into_0) = σ_36 (kA_plans into_0) ∧ rr_.2 (kA_plan into_0) = σ_36 (kA_plan into_0))) ?_ ?_
  · have c23 := iiA_points (s := into_0) hσ_36 (by first | assumption | decide | omega) 0
    refine wp_whl (fun ss_ => II ss_.2 ∧ FC [kP_corner] [into_0] σ ss_.2 ∧ (0 ≤ ss_.1 ∧ ss_.1 ≤ x_3) ∧ (ss_.2 (kA_points into_0) 0 = ss_.1) ∧ (ss_.2 (kA_plans into_0) = σ_36 (kA_plans into_0) ∧ ss_.2 (kA_plan into_0) = σ_36 (kA_plan into_0))) (fun ss_ => (x_3 - ss_.1).toNat) ⟨hσ_36, frσ_36, (by (try dsimp only) <;> first | omega | ((try simp (disch := omega) only [w32_of, w64_of, w8_of]) <;> first | omega | (split <;> omega) | (refine And.intro ?_ ?_ <;> split <;> omega)) | omega), (by (try dsimp only) <;> (first | omega | (have q1 := (p3 (p1.mpr (by omega))).1; omega))), (by (try dsimp only) <;> (first | exact ⟨rfl, rfl⟩ | exact ⟨p4.trans hpp.1, p5.trans hpp.2⟩))⟩ ?_
    rintro ⟨k_37, σ_38⟩ y26
    try dsimp only at y26 ⊢
    obtain ⟨hσ_38, frσ_38, g24, g25, hpp⟩ := y26
    have c28 := w32_rng k_37
    have c29 := w32_rng x_3
    refine wp_if (fun c27 => ?_) (fun c27 => ?_)
    · try simp (disch := omega) only [w32_of, w64_of, w8_of, decide_eq_true_eq, decide_eq_false_iff_not, Bool.not_eq_true] at c27
      refine wp_rdI (by (try dsimp only) <;> first | omega | ((try simp (disch := omega) only [w32_of, w64_of, w8_of]) <;> first | omega | (split <;> omega) | (refine And.intro ?_ ?_ <;> split <;> omega)) | omega) (by (try dsimp only) <;> first | omega | ((try simp (disch := omega) only [w32_of, w64_of, w8_of]) <;> first | omega | (split <;> omega) | (refine And.intro ?_ ?_ <;> split <;> omega)) | omega) (fun x_47 e_x_47 => ?_)
      have b_x_47 : 0 ≤ x_47 ∧ x_47 ≤ 1023 := by rw [e_x_47]; exact ii_kP_corner hσ_38 _
      try simp (disch := omega) only [w32_of, w64_of, w8_of] at e_x_47
      have c30 := ii_kP_corner hσ_38 k_37
      have c31 := w32_rng x_47
      refine wp_rdI (by (try dsimp only) <;> first | omega | ((try simp (disch := omega) only [w32_of, w64_of, w8_of]) <;> first | omega | (split <;> omega) | (refine And.intro ?_ ?_ <;> split <;> omega)) | omega) (by (try dsimp only) <;> first | omega | ((try simp (disch := omega) only [w32_of, w64_of, w8_of]) <;> first | omega | (split <;> omega) | (refine And.intro ?_ ?_ <;> split <;> omega)) | omega) (fun x_49 e_x_49 => ?_)
      have b_x_49 : (-1000000000) ≤ x_49 ∧ x_49 ≤ 1000000000 := by rw [e_x_49]; exact ii_kP_placeX hσ_38 _
      rw [FC_at frσ_38 (c := kP_placeX) (by first | decide | (rcases hE with rfl | rfl | rfl <;> decide))] at e_x_49
      try simp (disch := omega) only [w32_of, w64_of, w8_of] at e_x_49
      have c32 := ii_kP_placeX hσ_38 x_47
      have c33 := FC_at frσ_38 (c := kP_placeX) (by first | decide | (rcases hE with rfl | rfl | rfl <;> decide)) x_47
      have c34 := ii_kP_placeX hσ x_47
      refine wp_rdI (by (try dsimp only) <;> first | omega | ((try simp (disch := omega) only [w32_of, w64_of, w8_of]) <;> first | omega | (split <;> omega) | (refine And.intro ?_ ?_ <;> split <;> omega)) | omega) (by (try dsimp only) <;> first | omega | ((try simp (disch := omega) only [w32_of, w64_of, w8_of]) <;> first | omega | (split <;> omega) | (refine And.intro ?_ ?_ <;> split <;> omega)) | omega) (fun x_51 e_x_51 => ?_)
      have b_x_51 : 0 ≤ x_51 ∧ x_51 ≤ 1023 := by rw [e_x_51]; exact ii_kP_corner hσ_38 _
      try simp (disch := omega) only [w32_of, w64_of, w8_of] at e_x_51
      have c35 := w32_rng x_51
      refine wp_rdI (by (try dsimp only) <;> first | omega | ((try simp (disch := omega) only [w32_of, w64_of, w8_of]) <;> first | omega | (split <;> omega) | (refine And.intro ?_ ?_ <;> split <;> omega)) | omega) (by (try dsimp only) <;> first | omega | ((try simp (disch := omega) only [w32_of, w64_of, w8_of]) <;> first | omega | (split <;> omega) | (refine And.intro ?_ ?_ <;> split <;> omega)) | omega) (fun x_53 e_x_53 => ?_)
      have b_x_53 : (-1000000000) ≤ x_53 ∧ x_53 ≤ 1000000000 := by rw [e_x_53]; exact ii_kP_placeY hσ_38 _
      rw [FC_at frσ_38 (c := kP_placeY) (by first | decide | (rcases hE with rfl | rfl | rfl <;> decide))] at e_x_53
      try simp (disch := omega) only [w32_of, w64_of, w8_of] at e_x_53
      have c36 := ii_kP_placeY hσ_38 x_51
      have c37 := FC_at frσ_38 (c := kP_placeY) (by first | decide | (rcases hE with rfl | rfl | rfl <;> decide)) x_51
      have c38 := ii_kP_placeY hσ x_51
      refine wp_bd (v_addPoint (σ := σ_38) (this_0 := into_0) (px_0 := x_49) (py_0 := x_53) hσ_38 (by first | assumption | decide | omega) (by (try dsimp only) <;> first | omega | ((try simp (disch := omega) only [w32_of, w64_of, w8_of]) <;> first | omega | (split <;> omega) | (refine And.intro ?_ ?_ <;> split <;> omega)) | omega) (by (try dsimp only) <;> first | omega | ((try simp (disch := omega) only [w32_of, w64_of, w8_of]) <;> first | omega | (split <;> omega) | (refine And.intro ?_ ?_ <;> split <;> omega)) | omega)) ?_
      rintro ⟨x_57, σ_56⟩ - y39
      try dsimp only at y39 ⊢
      obtain ⟨hσ_56, flσ_56, p1, p2, p3, p4, p5⟩ := y39
      have frσ_56 : FC [kP_corner] [into_0] σ σ_56 := FC_tr frσ_38 flσ_56 (by first | decide | (rcases hE with rfl | rfl | rfl <;> decide)) (by first | decide | (rcases hE with rfl | rfl | rfl <;> decide)) (by simp) (by simp)
      have c40 := iiA_points (s := into_0) hσ_38 (by first | assumption | decide | omega) 0
      try simp (disch := omega) only [w32_of, w64_of, w8_of] at p1
      try simp (disch := omega) only [w32_of, w64_of, w8_of] at p2
      have c41 := iiA_points (s := into_0) hσ_56 (by first | assumption | decide | omega) 0
      have c42 := iiA_x (s := into_0) hσ_56 (by first | assumption | decide | omega) (σ_38 (kA_points into_0) 0)
      have c43 := iiA_y (s := into_0) hσ_56 (by first | assumption | decide | omega) (σ_38 (kA_points into_0) 0)
      try simp (disch := omega) only [w32_of, w64_of, w8_of] at p3
      try simp (disch := omega) only [w32_of, w64_of, w8_of] at p4
      try simp (disch := omega) only [w32_of, w64_of, w8_of] at p5
      exact wp_some (x_inl ⟨⟨hσ_56, frσ_56, (by (try dsimp only) <;> first | omega | ((try simp (disch := omega) only [w32_of, w64_of, w8_of]) <;> first | omega | (split <;> omega) | (refine And.intro ?_ ?_ <;> split <;> omega)) | omega), (by (try dsimp only) <;> (first | omega | (have q1 := (p3 (p1.mpr (by omega))).1; omega))), (by (try dsimp only) <;> (first | exact ⟨rfl, rfl⟩ | exact ⟨p4.trans hpp.1, p5.trans hpp.2⟩))⟩, (by (try dsimp only) <;> first | omega | ((try simp (disch := omega) only [w32_of, w64_of, w8_of]) <;> first | omega | (split <;> omega) | (refine And.intro ?_ ?_ <;> split <;> omega)) | omega)⟩)
    · try simp (disch := omega) only [w32_of, w64_of, w8_of, decide_eq_true_eq, decide_eq_false_iff_not, Bool.not_eq_true] at c27
      have c44 := iiA_points (s := into_0) hσ_38 (by first | assumption | decide | omega) 0
      exact wp_some (x_inr ⟨hσ_38, frσ_38, (by (try dsimp only) <;> first | omega | ((try simp (disch := omega) only [w32_of, w64_of, w8_of]) <;> first | omega | (split <;> omega) | (refine And.intro ?_ ?_ <;> split <;> omega)) | omega), (by (try dsimp only) <;> (exact hpp))⟩)
  rintro ⟨k_60, σ_61⟩ _ y46
  try dsimp only at y46 ⊢
  obtain ⟨hσ_61, frσ_61, g45, hpp⟩ := y46
  refine wp_bd (P := fun rr_ => II rr_ ∧ FC [kP_corner] [into_0] σ rr_ ∧ (rr_ (kA_points into_0) 0 = if x_3 < 3 then x_3 else x_3 + 1) ∧ (rr_ (kA_plans into_0) = σ_36 (kA_plans into_0) ∧ rr_ (kA_plan into_0) = σ_36 (kA_plan into_0))) ?_ ?_
  · have c48 := w32_rng x_3
    refine wp_if (fun c47 => ?_) (fun c47 => ?_)
    · try simp (disch := omega) only [w32_of, w64_of, w8_of, decide_eq_true_eq, decide_eq_false_iff_not, Bool.not_eq_true] at c47
      refine wp_rdI (by (try dsimp only) <;> first | omega | ((try simp (disch := omega) only [w32_of, w64_of, w8_of]) <;> first | omega | (split <;> omega) | (refine And.intro ?_ ?_ <;> split <;> omega)) | omega) (by (try dsimp only) <;> first | omega | ((try simp (disch := omega) only [w32_of, w64_of, w8_of]) <;> first | omega | (split <;> omega) | (refine And.intro ?_ ?_ <;> split <;> omega)) | omega) (fun x_67 e_x_67 => ?_)
      have b_x_67 : 0 ≤ x_67 ∧ x_67 ≤ 1023 := by rw [e_x_67]; exact ii_kP_corner hσ_61 _
      try simp (disch := omega) only [w32_of, w64_of, w8_of] at e_x_67
      have c49 := ii_kP_corner hσ_61 0
      have c50 := w32_rng x_67
      refine wp_rdI (by (try dsimp only) <;> first | omega | ((try simp (disch := omega) only [w32_of, w64_of, w8_of]) <;> first | omega | (split <;> omega) | (refine And.intro ?_ ?_ <;> split <;> omega)) | omega) (by (try dsimp only) <;> first | omega | ((try simp (disch := omega) only [w32_of, w64_of, w8_of]) <;> first | omega | (split <;> omega) | (refine And.intro ?_ ?_ <;> split <;> omega)) | omega) (fun x_69 e_x_69 => ?_)
      have b_x_69 : (-1000000000) ≤ x_69 ∧ x_69 ≤ 1000000000 := by rw [e_x_69]; exact ii_kP_placeX hσ_61 _
      rw [FC_at frσ_61 (c := kP_placeX) (by first | decide | (rcases hE with rfl | rfl | rfl <;> decide))] at e_x_69
      try simp (disch := omega) only [w32_of, w64_of, w8_of] at e_x_69
      have c51 := ii_kP_placeX hσ_61 x_67
      have c52 := FC_at frσ_61 (c := kP_placeX) (by first | decide | (rcases hE with rfl | rfl | rfl <;> decide)) x_67
      have c53 := ii_kP_placeX hσ x_67
      refine wp_rdI (by (try dsimp only) <;> first | omega | ((try simp (disch := omega) only [w32_of, w64_of, w8_of]) <;> first | omega | (split <;> omega) | (refine And.intro ?_ ?_ <;> split <;> omega)) | omega) (by (try dsimp only) <;> first | omega | ((try simp (disch := omega) only [w32_of, w64_of, w8_of]) <;> first | omega | (split <;> omega) | (refine And.intro ?_ ?_ <;> split <;> omega)) | omega) (fun x_71 e_x_71 => ?_)
      have b_x_71 : 0 ≤ x_71 ∧ x_71 ≤ 1023 := by rw [e_x_71]; exact ii_kP_corner hσ_61 _
      try simp (disch := omega) only [w32_of, w64_of, w8_of] at e_x_71
      have c54 := w32_rng x_71
      refine wp_rdI (by (try dsimp only) <;> first | omega | ((try simp (disch := omega) only [w32_of, w64_of, w8_of]) <;> first | omega | (split <;> omega) | (refine And.intro ?_ ?_ <;> split <;> omega)) | omega) (by (try dsimp only) <;> first | omega | ((try simp (disch := omega) only [w32_of, w64_of, w8_of]) <;> first | omega | (split <;> omega) | (refine And.intro ?_ ?_ <;> split <;> omega)) | omega) (fun x_73 e_x_73 => ?_)
      have b_x_73 : (-1000000000) ≤ x_73 ∧ x_73 ≤ 1000000000 := by rw [e_x_73]; exact ii_kP_placeY hσ_61 _
      rw [FC_at frσ_61 (c := kP_placeY) (by first | decide | (rcases hE with rfl | rfl | rfl <;> decide))] at e_x_73
      try simp (disch := omega) only [w32_of, w64_of, w8_of] at e_x_73
      have c55 := ii_kP_placeY hσ_61 x_71
      have c56 := FC_at frσ_61 (c := kP_placeY) (by first | decide | (rcases hE with rfl | rfl | rfl <;> decide)) x_71
      have c57 := ii_kP_placeY hσ x_71
      refine wp_bd (v_addPoint (σ := σ_61) (this_0 := into_0) (px_0 := x_69) (py_0 := x_73) hσ_61 (by first | assumption | decide | omega) (by (try dsimp only) <;> first | omega | ((try simp (disch := omega) only [w32_of, w64_of, w8_of]) <;> first | omega | (split <;> omega) | (refine And.intro ?_ ?_ <;> split <;> omega)) | omega) (by (try dsimp only) <;> first | omega | ((try simp (disch := omega) only [w32_of, w64_of, w8_of]) <;> first | omega | (split <;> omega) | (refine And.intro ?_ ?_ <;> split <;> omega)) | omega)) ?_
      rintro ⟨x_77, σ_76⟩ - y58
      try dsimp only at y58 ⊢
      obtain ⟨hσ_76, flσ_76, p1, p2, p3, p4, p5⟩ := y58
      have frσ_76 : FC [kP_corner] [into_0] σ σ_76 := FC_tr frσ_61 flσ_76 (by first | decide | (rcases hE with rfl | rfl | rfl <;> decide)) (by first | decide | (rcases hE with rfl | rfl | rfl <;> decide)) (by simp) (by simp)
      have c59 := iiA_points (s := into_0) hσ_61 (by first | assumption | decide | omega) 0
      try simp (disch := omega) only [w32_of, w64_of, w8_of] at p1
      try simp (disch := omega) only [w32_of, w64_of, w8_of] at p2
      have c60 := iiA_points (s := into_0) hσ_76 (by first | assumption | decide | omega) 0
      have c61 := iiA_x (s := into_0) hσ_76 (by first | assumption | decide | omega) (σ_61 (kA_points into_0) 0)
      have c62 := iiA_y (s := into_0) hσ_76 (by first | assumption | decide | omega) (σ_61 (kA_points into_0) 0)
      try simp (disch := omega) only [w32_of, w64_of, w8_of] at p3
      try simp (disch := omega) only [w32_of, w64_of, w8_of] at p4
      try simp (disch := omega) only [w32_of, w64_of, w8_of] at p5
      exact wp_some ⟨hσ_76, frσ_76, (by (try dsimp only) <;> (first | (rw [if_pos (by omega)]; omega) | (rw [if_neg (by omega)]; (have q1 := (p3 (p1.mpr (by omega))).1; omega)))), (by (try dsimp only) <;> (first | exact hpp | exact ⟨p4.trans hpp.1, p5.trans hpp.2⟩))⟩
    · try simp (disch := omega) only [w32_of, w64_of, w8_of, decide_eq_true_eq, decide_eq_false_iff_not, Bool.not_eq_true] at c47
      have c63 := iiA_points (s := into_0) hσ_61 (by first | assumption | decide | omega) 0
      exact wp_some ⟨hσ_61, frσ_61, (by (try dsimp only) <;> (first | (rw [if_pos (by omega)]; omega) | (rw [if_neg (by omega)]; (have q1 := (p3 (p1.mpr (by omega))).1; omega)))), (by (try dsimp only) <;> (first | exact hpp | exact ⟨p4.trans hpp.1, p5.trans hpp.2⟩))⟩
  rintro σ_80 _ ⟨hσ_80, frσ_80, h80, hpq⟩
  exact wp_some ⟨hσ_80, frσ_80, (by (try dsimp only) <;> first | omega | ((try simp (disch := omega) only [w32_of, w64_of, w8_of]) <;> first | omega | (split <;> omega) | (refine And.intro ?_ ?_ <;> split <;> omega)) | omega), (by (try dsimp only) <;> (obtain ⟨m9, hm9⟩ := SP_fl hsp; exact SHa_fl ⟨m9, by rw [hpq.1, hpq.2, h80]; exact hm9⟩))⟩
theorem s_P_insertInRound {σ : SG} {place_0 : Int} (hσ : II σ) (w0 : PRs σ) (w1 : 0 ≤ place_0 ∧ place_0 < σ kP_places 0) (w2 : 2 ≤ σ kP_roundSize 0 ∧ σ kP_roundSize 0 ≤ 513) : wp_ (fP_insertInRound σ place_0) (fun zz_ => II zz_ ∧ FC [kP_round, kP_roundSize] [] σ zz_ ∧ (PRs zz_) ∧ (zz_ kP_roundSize 0 = σ kP_roundSize 0 + 1)) := by
  unfold fP_insertInRound
  have c1 := ii_kP_places hσ 0
  have c2 := ii_kP_roundSize hσ 0
  have hpc := ii_kP_places hσ 0
  have sb0 : SB kP_round (σ kP_roundSize 0 + 1) σ σ := SB_refl _ _ _
  refine wp_bd (P := fun rr_ => II rr_.2 ∧ FC [kP_round, kP_roundSize] [] σ rr_.2 ∧ (2 ≤ rr_.1 ∧ rr_.1 ≤ σ kP_roundSize 0) ∧ (PRx rr_.2 (σ kP_roundSize 0) rr_.1) ∧ (rr_.2 kP_roundSize 0 = σ kP_roundSize 0)) ?_ ?_
  · refine wp_whl (fun ss_ => II ss_.2 ∧ FC [kP_round, kP_roundSize] [] σ ss_.2 ∧ (2 ≤ ss_.1 ∧ ss_.1 ≤ σ kP_roundSize 0) ∧ (PRx ss_.2 (σ kP_roundSize 0) ss_.1) ∧ (ss_.2 kP_roundSize 0 = σ kP_roundSize 0)) (fun ss_ => ss_.1.toNat) ⟨hσ, (FC_refl _ _ _), (by (try dsimp only) <;> first | assumption | omega | ((try simp (disch := omega) only [w32_of, w64_of, w8_of]) <;> first | assumption | omega | (split <;> omega) | (refine And.intro ?_ ?_ <;> split <;> omega)) | omega), (by (try dsimp only) <;> (first | exact PRx_0 w0 | exact PRx_mv hpx (by rw [eσ_32, e_x_30]) (by omega) (by omega))), (by (try dsimp only) <;> first | assumption | omega | ((try simp (disch := omega) only [w32_of, w64_of, w8_of]) <;> first | assumption | omega | (split <;> omega) | (refine And.intro ?_ ?_ <;> split <;> omega)) | omega)⟩ ?_
    rintro ⟨at_1, σ_2⟩ y5
    try dsimp only at y5 ⊢
    obtain ⟨hσ_2, frσ_2, g3, hpx, g4⟩ := y5
    have c7 := w32_rng at_1
    refine wp_if (fun c6 => ?_) (fun c6 => ?_)
    · try simp (disch := omega) only [w32_of, w64_of, w8_of, decide_eq_true_eq, decide_eq_false_iff_not, Bool.not_eq_true] at c6
      refine wp_rdI (by (try dsimp only) <;> first | assumption | omega | ((try simp (disch := omega) only [w32_of, w64_of, w8_of]) <;> first | assumption | omega | (split <;> omega) | (refine And.intro ?_ ?_ <;> split <;> omega)) | omega) (by (try dsimp only) <;> first | assumption | omega | ((try simp (disch := omega) only [w32_of, w64_of, w8_of]) <;> first | assumption | omega | (split <;> omega) | (refine And.intro ?_ ?_ <;> split <;> omega)) | omega) (fun x_23 e_x_23 => ?_)
      have b_x_23 : 0 ≤ x_23 ∧ x_23 ≤ 1023 := by rw [e_x_23]; exact ii_kP_round hσ_2 _
      try simp (disch := omega) only [w32_of, w64_of, w8_of] at e_x_23
      have c8 := ii_kP_round hσ_2 0
      have c9 := w32_rng (at_1 - 1)
      refine wp_rdI (by (try dsimp only) <;> first | assumption | omega | ((try simp (disch := omega) only [w32_of, w64_of, w8_of]) <;> first | assumption | omega | (split <;> omega) | (refine And.intro ?_ ?_ <;> split <;> omega)) | omega) (by (try dsimp only) <;> first | assumption | omega | ((try simp (disch := omega) only [w32_of, w64_of, w8_of]) <;> first | assumption | omega | (split <;> omega) | (refine And.intro ?_ ?_ <;> split <;> omega)) | omega) (fun x_25 e_x_25 => ?_)
      have b_x_25 : 0 ≤ x_25 ∧ x_25 ≤ 1023 := by rw [e_x_25]; exact ii_kP_round hσ_2 _
      try simp (disch := omega) only [w32_of, w64_of, w8_of] at e_x_25
      have c10 := ii_kP_round hσ_2 (at_1 - 1)
      refine wp_bd (s_P_turnAt (σ := σ_2) (a_0 := x_23) (b_0 := x_25) (c_0 := place_0) hσ_2 (by (try dsimp only) <;> first | assumption | omega | ((try simp (disch := omega) only [w32_of, w64_of, w8_of]) <;> first | assumption | omega | (split <;> omega) | (refine And.intro ?_ ?_ <;> split <;> omega)) | omega) (by (try dsimp only) <;> first | assumption | omega | ((try simp (disch := omega) only [w32_of, w64_of, w8_of]) <;> first | assumption | omega | (split <;> omega) | (refine And.intro ?_ ?_ <;> split <;> omega)) | omega) (by (try dsimp only) <;> first | assumption | omega | ((try simp (disch := omega) only [w32_of, w64_of, w8_of]) <;> first | assumption | omega | (split <;> omega) | (refine And.intro ?_ ?_ <;> split <;> omega)) | omega)) ?_
      rintro x_28 - g11
      try simp (disch := omega) only [w32_of, w64_of, w8_of] at g11
      have c13 := w32_rng x_28
      refine wp_if (fun c12 => ?_) (fun c12 => ?_)
      · try simp (disch := omega) only [w32_of, w64_of, w8_of, decide_eq_true_eq, decide_eq_false_iff_not, Bool.not_eq_true] at c12
        refine wp_rdI (by (try dsimp only) <;> first | assumption | omega | ((try simp (disch := omega) only [w32_of, w64_of, w8_of]) <;> first | assumption | omega | (split <;> omega) | (refine And.intro ?_ ?_ <;> split <;> omega)) | omega) (by (try dsimp only) <;> first | assumption | omega | ((try simp (disch := omega) only [w32_of, w64_of, w8_of]) <;> first | assumption | omega | (split <;> omega) | (refine And.intro ?_ ?_ <;> split <;> omega)) | omega) (fun x_30 e_x_30 => ?_)
        have b_x_30 : 0 ≤ x_30 ∧ x_30 ≤ 1023 := by rw [e_x_30]; exact ii_kP_round hσ_2 _
        try simp (disch := omega) only [w32_of, w64_of, w8_of] at e_x_30
        refine wp_waI hσ_2 b_kP_round (by (try dsimp only) <;> first | assumption | omega | ((try simp (disch := omega) only [w32_of, w64_of, w8_of]) <;> first | assumption | omega | (split <;> omega) | (refine And.intro ?_ ?_ <;> split <;> omega)) | omega) (by (try dsimp only) <;> first | assumption | omega | ((try simp (disch := omega) only [w32_of, w64_of, w8_of]) <;> first | assumption | omega | (split <;> omega) | (refine And.intro ?_ ?_ <;> split <;> omega)) | omega) (by (try dsimp only) <;> first | assumption | omega | ((try simp (disch := omega) only [w32_of, w64_of, w8_of]) <;> first | assumption | omega | (split <;> omega) | (refine And.intro ?_ ?_ <;> split <;> omega)) | omega) (fun σ_32 hσ_32 eσ_32 => ?_)
        try simp (disch := omega) only [w32_of, w64_of, w8_of] at eσ_32
        have flσ_32 := FC_sg eσ_32 (by first | decide | (rcases hE with rfl | rfl | rfl <;> decide))
        have frσ_32 : FC [kP_round, kP_roundSize] [] σ σ_32 := FC_tr frσ_2 flσ_32 (by first | decide | (rcases hE with rfl | rfl | rfl <;> decide)) (by first | decide | (rcases hE with rfl | rfl | rfl <;> decide)) (by simp) (by simp)
        have c14 := ii_kP_roundSize hσ_32 0
        have c15 := FC_at flσ_32 (c := kP_roundSize) (by first | decide | (rcases hE with rfl | rfl | rfl <;> decide)) 0
        have c16 := ii_kP_roundSize hσ_2 0
        exact wp_some (x_inl ⟨⟨hσ_32, frσ_32, (by (try dsimp only) <;> first | assumption | omega | ((try simp (disch := omega) only [w32_of, w64_of, w8_of]) <;> first | assumption | omega | (split <;> omega) | (refine And.intro ?_ ?_ <;> split <;> omega)) | omega), (by (try dsimp only) <;> (first | exact PRx_0 w0 | exact PRx_mv hpx (by rw [eσ_32, e_x_30]) (by omega) (by omega))), (by (try dsimp only) <;> first | assumption | omega | ((try simp (disch := omega) only [w32_of, w64_of, w8_of]) <;> first | assumption | omega | (split <;> omega) | (refine And.intro ?_ ?_ <;> split <;> omega)) | omega)⟩, (by (try dsimp only) <;> first | assumption | omega | ((try simp (disch := omega) only [w32_of, w64_of, w8_of]) <;> first | assumption | omega | (split <;> omega) | (refine And.intro ?_ ?_ <;> split <;> omega)) | omega)⟩)
      · try simp (disch := omega) only [w32_of, w64_of, w8_of, decide_eq_true_eq, decide_eq_false_iff_not, Bool.not_eq_true] at c12
        have c17 := ii_kP_roundSize hσ_2 0
        exact wp_some (x_inr ⟨hσ_2, frσ_2, (by (try dsimp only) <;> first | assumption | omega | ((try simp (disch := omega) only [w32_of, w64_of, w8_of]) <;> first | assumption | omega | (split <;> omega) | (refine And.intro ?_ ?_ <;> split <;> omega)) | omega), (by (try dsimp only) <;> (exact hpx)), (by (try dsimp only) <;> first | assumption | omega | ((try simp (disch := omega) only [w32_of, w64_of, w8_of]) <;> first | assumption | omega | (split <;> omega) | (refine And.intro ?_ ?_ <;> split <;> omega)) | omega)⟩)
    · try simp (disch := omega) only [w32_of, w64_of, w8_of, decide_eq_true_eq, decide_eq_false_iff_not, Bool.not_eq_true] at c6
      have c18 := ii_kP_roundSize hσ_2 0
      exact wp_some (x_inr ⟨hσ_2, frσ_2, (by (try dsimp only) <;> first | assumption | omega | ((try simp (disch := omega) only [w32_of, w64_of, w8_of]) <;> first | assumption | omega | (split <;> omega) | (refine And.intro ?_ ?_ <;> split <;> omega)) | omega), (by (try dsimp only) <;> (exact hpx)), (by (try dsimp only) <;> first | assumption | omega | ((try simp (disch := omega) only [w32_of, w64_of, w8_of]) <;> first | assumption | omega | (split <;> omega) | (refine And.intro ?_ ?_ <;> split <;> omega)) | omega)⟩)
  rintro ⟨at_37, σ_38⟩ _ y20
  try dsimp only at y20 ⊢
  obtain ⟨hσ_38, frσ_38, g19, hpx, hrs⟩ := y20
  have c21 := w32_rng at_37
  refine wp_waI hσ_38 b_kP_round (by (try dsimp only) <;> first | assumption | omega | ((try simp (disch := omega) only [w32_of, w64_of, w8_of]) <;> first | assumption | omega | (split <;> omega) | (refine And.intro ?_ ?_ <;> split <;> omega)) | omega) (by (try dsimp only) <;> first | assumption | omega | ((try simp (disch := omega) only [w32_of, w64_of, w8_of]) <;> first | assumption | omega | (split <;> omega) | (refine And.intro ?_ ?_ <;> split <;> omega)) | omega) (by (try dsimp only) <;> first | assumption | omega | ((try simp (disch := omega) only [w32_of, w64_of, w8_of]) <;> first | assumption | omega | (split <;> omega) | (refine And.intro ?_ ?_ <;> split <;> omega)) | omega) (fun σ_39 hσ_39 eσ_39 => ?_)
  try simp (disch := omega) only [w32_of, w64_of, w8_of] at eσ_39
  have flσ_39 := FC_sg eσ_39 (by first | decide | (rcases hE with rfl | rfl | rfl <;> decide))
  have frσ_39 : FC [kP_round, kP_roundSize] [] σ σ_39 := FC_tr frσ_38 flσ_39 (by first | decide | (rcases hE with rfl | rfl | rfl <;> decide)) (by first | decide | (rcases hE with rfl | rfl | rfl <;> decide)) (by simp) (by simp)
  have c22 := ii_kP_roundSize hσ_39 0
  have c23 := FC_at flσ_39 (c := kP_roundSize) (by first | decide | (rcases hE with rfl | rfl | rfl <;> decide)) 0
  have c24 := ii_kP_roundSize hσ_38 0
  refine wp_wfI hσ_39 b_kP_roundSize (by (try dsimp only) <;> first | assumption | omega | ((try simp (disch := omega) only [w32_of, w64_of, w8_of]) <;> first | assumption | omega | (split <;> omega) | (refine And.intro ?_ ?_ <;> split <;> omega)) | omega) (fun σ_41 hσ_41 eσ_41 => ?_)
  try simp (disch := omega) only [w32_of, w64_of, w8_of] at eσ_41
  have flσ_41 := FC_sg eσ_41 (by first | decide | (rcases hE with rfl | rfl | rfl <;> decide))
  have frσ_41 : FC [kP_round, kP_roundSize] [] σ σ_41 := FC_tr frσ_39 flσ_41 (by first | decide | (rcases hE with rfl | rfl | rfl <;> decide)) (by first | decide | (rcases hE with rfl | rfl | rfl <;> decide)) (by simp) (by simp)
  have c25 := ii_kP_roundSize hσ_41 0
  have c26 := sg_val eσ_41
  exact wp_some ⟨hσ_41, frσ_41, (by (try dsimp only) <;> (exact PRx_end hpx eσ_39 eσ_41 hrs (by rw [show σ_38 kP_places 0 = σ kP_places 0 from FC_at frσ_38 (c := kP_places) (by decide) 0]; omega))), (by (try dsimp only) <;> first | assumption | omega | ((try simp (disch := omega) only [w32_of, w64_of, w8_of]) <;> first | assumption | omega | (split <;> omega) | (refine And.intro ?_ ?_ <;> split <;> omega)) | omega)⟩
theorem s_P_findRound {σ : SG} {from_0 : Int} {to_0 : Int} (hσ : II σ) (w0 : 0 ≤ from_0 ∧ from_0 < σ kP_places 0) (w1 : 0 ≤ to_0 ∧ to_0 < σ kP_places 0) : wp_ (fP_findRound σ from_0 to_0) (fun zz_ => II zz_.2 ∧ FC [kP_round, kP_roundSize] [] σ zz_.2 ∧ (PRs zz_.2) ∧ (2 ≤ zz_.2 kP_roundSize 0 ∧ zz_.2 kP_roundSize 0 ≤ 514)) := by
  unfold fP_findRound
  have c1 := ii_kP_places hσ 0
  have hpc := ii_kP_places hσ 0
  refine wp_waI hσ b_kP_round (by (try dsimp only) <;> first | assumption | omega | ((try simp (disch := omega) only [w32_of, w64_of, w8_of]) <;> first | assumption | omega | (split <;> omega) | (refine And.intro ?_ ?_ <;> split <;> omega)) | omega) (by (try dsimp only) <;> first | assumption | omega | ((try simp (disch := omega) only [w32_of, w64_of, w8_of]) <;> first | assumption | omega | (split <;> omega) | (refine And.intro ?_ ?_ <;> split <;> omega)) | omega) (by (try dsimp only) <;> first | assumption | omega | ((try simp (disch := omega) only [w32_of, w64_of, w8_of]) <;> first | assumption | omega | (split <;> omega) | (refine And.intro ?_ ?_ <;> split <;> omega)) | omega) (fun σ_1 hσ_1 eσ_1 => ?_)
  try simp (disch := omega) only [w32_of, w64_of, w8_of] at eσ_1
  have flσ_1 := FC_sg eσ_1 (by first | decide | (rcases hE with rfl | rfl | rfl <;> decide))
  have frσ_1 : FC [kP_round, kP_roundSize] [] σ σ_1 := FC_le flσ_1 (by first | decide | (rcases hE with rfl | rfl | rfl <;> decide)) (by simp)
  refine wp_waI hσ_1 b_kP_round (by (try dsimp only) <;> first | assumption | omega | ((try simp (disch := omega) only [w32_of, w64_of, w8_of]) <;> first | assumption | omega | (split <;> omega) | (refine And.intro ?_ ?_ <;> split <;> omega)) | omega) (by (try dsimp only) <;> first | assumption | omega | ((try simp (disch := omega) only [w32_of, w64_of, w8_of]) <;> first | assumption | omega | (split <;> omega) | (refine And.intro ?_ ?_ <;> split <;> omega)) | omega) (by (try dsimp only) <;> first | assumption | omega | ((try simp (disch := omega) only [w32_of, w64_of, w8_of]) <;> first | assumption | omega | (split <;> omega) | (refine And.intro ?_ ?_ <;> split <;> omega)) | omega) (fun σ_3 hσ_3 eσ_3 => ?_)
  try simp (disch := omega) only [w32_of, w64_of, w8_of] at eσ_3
  have flσ_3 := FC_sg eσ_3 (by first | decide | (rcases hE with rfl | rfl | rfl <;> decide))
  have frσ_3 : FC [kP_round, kP_roundSize] [] σ σ_3 := FC_tr frσ_1 flσ_3 (by first | decide | (rcases hE with rfl | rfl | rfl <;> decide)) (by first | decide | (rcases hE with rfl | rfl | rfl <;> decide)) (by simp) (by simp)
  refine wp_wfI hσ_3 b_kP_roundSize (by (try dsimp only) <;> first | assumption | omega | ((try simp (disch := omega) only [w32_of, w64_of, w8_of]) <;> first | assumption | omega | (split <;> omega) | (refine And.intro ?_ ?_ <;> split <;> omega)) | omega) (fun σ_5 hσ_5 eσ_5 => ?_)
  try simp (disch := omega) only [w32_of, w64_of, w8_of] at eσ_5
  have flσ_5 := FC_sg eσ_5 (by first | decide | (rcases hE with rfl | rfl | rfl <;> decide))
  have frσ_5 : FC [kP_round, kP_roundSize] [] σ σ_5 := FC_tr frσ_3 flσ_5 (by first | decide | (rcases hE with rfl | rfl | rfl <;> decide)) (by first | decide | (rcases hE with rfl | rfl | rfl <;> decide)) (by simp) (by simp)
  have hp5 : PRs σ_5 := PRs_2 eσ_1 eσ_3 eσ_5 (by omega) (by omega)
  refine wp_bd (P := fun rr_ => II rr_.2 ∧ FC [kP_round, kP_roundSize] [] σ rr_.2 ∧ (2 ≤ rr_.2 kP_roundSize 0 ∧ rr_.2 kP_roundSize 0 ≤ 514) ∧ (PRs rr_.2)) ?_ ?_
  · have c2 := ii_kP_roundSize hσ_5 0
    have c3 := sg_val eσ_5
    refine wp_whl (fun ss_ => II ss_.2 ∧ FC [kP_round, kP_roundSize] [] σ ss_.2 ∧ (0 ≤ ss_.1 ∧ ss_.1 ≤ 1024) ∧ (2 ≤ ss_.2 kP_roundSize 0 ∧ ss_.2 kP_roundSize 0 ≤ 514) ∧ (PRs ss_.2)) (fun ss_ => (1025 - ss_.1).toNat) ⟨hσ_5, frσ_5, (by (try dsimp only) <;> first | assumption | omega | ((try simp (disch := omega) only [w32_of, w64_of, w8_of]) <;> first | assumption | omega | (split <;> omega) | (refine And.intro ?_ ?_ <;> split <;> omega)) | omega), (by (try dsimp only) <;> first | assumption | omega | ((try simp (disch := omega) only [w32_of, w64_of, w8_of]) <;> first | assumption | omega | (split <;> omega) | (refine And.intro ?_ ?_ <;> split <;> omega)) | omega), (by (try dsimp only) <;> (first | assumption))⟩ ?_
    rintro ⟨i_6, σ_7⟩ y6
    try dsimp only at y6 ⊢
    obtain ⟨hσ_7, frσ_7, g4, g5, hp7⟩ := y6
    have c8 := w32_rng i_6
    have c9 := ii_kP_places hσ_7 0
    have c10 := FC_at frσ_7 (c := kP_places) (by first | decide | (rcases hE with rfl | rfl | rfl <;> decide)) 0
    have c11 := w32_rng (σ_7 kP_places 0)
    refine wp_if (fun c7 => ?_) (fun c7 => ?_)
    · try simp (disch := omega) only [w32_of, w64_of, w8_of, decide_eq_true_eq, decide_eq_false_iff_not, Bool.not_eq_true] at c7
      refine wp_bd (s_P_turnAt (σ := σ_7) (a_0 := from_0) (b_0 := to_0) (c_0 := i_6) hσ_7 (by (try dsimp only) <;> first | assumption | omega | ((try simp (disch := omega) only [w32_of, w64_of, w8_of]) <;> first | assumption | omega | (split <;> omega) | (refine And.intro ?_ ?_ <;> split <;> omega)) | omega) (by (try dsimp only) <;> first | assumption | omega | ((try simp (disch := omega) only [w32_of, w64_of, w8_of]) <;> first | assumption | omega | (split <;> omega) | (refine And.intro ?_ ?_ <;> split <;> omega)) | omega) (by (try dsimp only) <;> first | assumption | omega | ((try simp (disch := omega) only [w32_of, w64_of, w8_of]) <;> first | assumption | omega | (split <;> omega) | (refine And.intro ?_ ?_ <;> split <;> omega)) | omega)) ?_
      rintro x_17 - g12
      try simp (disch := omega) only [w32_of, w64_of, w8_of] at g12
      have c14 := w32_rng x_17
      refine wp_if (fun c13 => ?_) (fun c13 => ?_)
      · try simp (disch := omega) only [w32_of, w64_of, w8_of, decide_eq_true_eq, decide_eq_false_iff_not, Bool.not_eq_true] at c13
        have c15 := ii_kP_roundSize hσ_7 0
        exact wp_some (x_inl ⟨⟨hσ_7, frσ_7, (by (try dsimp only) <;> first | assumption | omega | ((try simp (disch := omega) only [w32_of, w64_of, w8_of]) <;> first | assumption | omega | (split <;> omega) | (refine And.intro ?_ ?_ <;> split <;> omega)) | omega), (by (try dsimp only) <;> first | assumption | omega | ((try simp (disch := omega) only [w32_of, w64_of, w8_of]) <;> first | assumption | omega | (split <;> omega) | (refine And.intro ?_ ?_ <;> split <;> omega)) | omega), (by (try dsimp only) <;> (first | assumption))⟩, (by (try dsimp only) <;> first | assumption | omega | ((try simp (disch := omega) only [w32_of, w64_of, w8_of]) <;> first | assumption | omega | (split <;> omega) | (refine And.intro ?_ ?_ <;> split <;> omega)) | omega)⟩)
      · try simp (disch := omega) only [w32_of, w64_of, w8_of, decide_eq_true_eq, decide_eq_false_iff_not, Bool.not_eq_true] at c13
        refine wp_bd (P := fun rr_ => (-1 ≤ rr_ ∧ rr_ ≤ 1)) ?_ ?_
        · have c17 := ii_kP_roundSize hσ_7 0
          have c18 := w32_rng (σ_7 kP_roundSize 0)
          refine wp_if (fun c16 => ?_) (fun c16 => ?_)
          · try simp (disch := omega) only [w32_of, w64_of, w8_of, decide_eq_true_eq, decide_eq_false_iff_not, Bool.not_eq_true] at c16
            exact wp_some (by (try dsimp only) <;> first | assumption | omega | ((try simp (disch := omega) only [w32_of, w64_of, w8_of]) <;> first | assumption | omega | (split <;> omega) | (refine And.intro ?_ ?_ <;> split <;> omega)) | omega)
          · try simp (disch := omega) only [w32_of, w64_of, w8_of, decide_eq_true_eq, decide_eq_false_iff_not, Bool.not_eq_true] at c16
            refine wp_rdI (by (try dsimp only) <;> first | assumption | omega | ((try simp (disch := omega) only [w32_of, w64_of, w8_of]) <;> first | assumption | omega | (split <;> omega) | (refine And.intro ?_ ?_ <;> split <;> omega)) | omega) (by (try dsimp only) <;> first | assumption | omega | ((try simp (disch := omega) only [w32_of, w64_of, w8_of]) <;> first | assumption | omega | (split <;> omega) | (refine And.intro ?_ ?_ <;> split <;> omega)) | omega) (fun x_26 e_x_26 => ?_)
            have b_x_26 : 0 ≤ x_26 ∧ x_26 ≤ 1023 := by rw [e_x_26]; exact ii_kP_round hσ_7 _
            try simp (disch := omega) only [w32_of, w64_of, w8_of] at e_x_26
            have c19 := ii_kP_round hσ_7 2
            refine wp_bd (s_P_circleSign (σ := σ_7) (a_0 := from_0) (b_0 := to_0) (c_0 := x_26) (d_0 := i_6) hσ_7 (by (try dsimp only) <;> first | assumption | omega | ((try simp (disch := omega) only [w32_of, w64_of, w8_of]) <;> first | assumption | omega | (split <;> omega) | (refine And.intro ?_ ?_ <;> split <;> omega)) | omega) (by (try dsimp only) <;> first | assumption | omega | ((try simp (disch := omega) only [w32_of, w64_of, w8_of]) <;> first | assumption | omega | (split <;> omega) | (refine And.intro ?_ ?_ <;> split <;> omega)) | omega) (by (try dsimp only) <;> first | assumption | omega | ((try simp (disch := omega) only [w32_of, w64_of, w8_of]) <;> first | assumption | omega | (split <;> omega) | (refine And.intro ?_ ?_ <;> split <;> omega)) | omega) (by (try dsimp only) <;> first | assumption | omega | ((try simp (disch := omega) only [w32_of, w64_of, w8_of]) <;> first | assumption | omega | (split <;> omega) | (refine And.intro ?_ ?_ <;> split <;> omega)) | omega)) ?_
            rintro x_29 - g20
            try simp (disch := omega) only [w32_of, w64_of, w8_of] at g20
            exact wp_some (by (try dsimp only) <;> first | assumption | omega | ((try simp (disch := omega) only [w32_of, w64_of, w8_of]) <;> first | assumption | omega | (split <;> omega) | (refine And.intro ?_ ?_ <;> split <;> omega)) | omega)
        rintro x_31 _ g21
        refine wp_bd (P := fun rr_ => II rr_ ∧ FC [kP_round, kP_roundSize] [] σ rr_ ∧ (2 ≤ rr_ kP_roundSize 0 ∧ rr_ kP_roundSize 0 ≤ 514) ∧ (PRs rr_)) ?_ ?_
        · have c23 := w32_rng x_31
          refine wp_if (fun c22 => ?_) (fun c22 => ?_)
          · try simp (disch := omega) only [w32_of, w64_of, w8_of, decide_eq_true_eq, decide_eq_false_iff_not, Bool.not_eq_true] at c22
            refine wp_wfI hσ_7 b_kP_roundSize (by (try dsimp only) <;> first | assumption | omega | ((try simp (disch := omega) only [w32_of, w64_of, w8_of]) <;> first | assumption | omega | (split <;> omega) | (refine And.intro ?_ ?_ <;> split <;> omega)) | omega) (fun σ_37 hσ_37 eσ_37 => ?_)
            try simp (disch := omega) only [w32_of, w64_of, w8_of] at eσ_37
            have flσ_37 := FC_sg eσ_37 (by first | decide | (rcases hE with rfl | rfl | rfl <;> decide))
            have frσ_37 : FC [kP_round, kP_roundSize] [] σ σ_37 := FC_tr frσ_7 flσ_37 (by first | decide | (rcases hE with rfl | rfl | rfl <;> decide)) (by first | decide | (rcases hE with rfl | rfl | rfl <;> decide)) (by simp) (by simp)
            have c24 := ii_kP_roundSize hσ_37 0
            have c25 := sg_val eσ_37
            exact wp_some ⟨hσ_37, frσ_37, (by (try dsimp only) <;> first | assumption | omega | ((try simp (disch := omega) only [w32_of, w64_of, w8_of]) <;> first | assumption | omega | (split <;> omega) | (refine And.intro ?_ ?_ <;> split <;> omega)) | omega), (by (try dsimp only) <;> (first | exact hp7 | exact PRs_cut eσ_37 (by omega) hp7))⟩
          · try simp (disch := omega) only [w32_of, w64_of, w8_of, decide_eq_true_eq, decide_eq_false_iff_not, Bool.not_eq_true] at c22
            have c26 := ii_kP_roundSize hσ_7 0
            exact wp_some ⟨hσ_7, frσ_7, (by (try dsimp only) <;> first | assumption | omega | ((try simp (disch := omega) only [w32_of, w64_of, w8_of]) <;> first | assumption | omega | (split <;> omega) | (refine And.intro ?_ ?_ <;> split <;> omega)) | omega), (by (try dsimp only) <;> (first | exact hp7 | exact PRs_cut eσ_37 (by omega) hp7))⟩
        rintro σ_40 _ ⟨hσ_40, frσ_40, g27, hp40⟩
        refine wp_bd (P := fun rr_ => II rr_ ∧ FC [kP_round, kP_roundSize] [] σ rr_ ∧ (2 ≤ rr_ kP_roundSize 0 ∧ rr_ kP_roundSize 0 ≤ 514) ∧ (PRs rr_)) ?_ ?_
        · have c29 := w32_rng x_31
          have c30 := ii_kP_roundSize hσ_40 0
          have c31 := w32_rng (σ_40 kP_roundSize 0)
          refine wp_if (fun c28 => ?_) (fun c28 => ?_)
          · try simp (disch := omega) only [w32_of, w64_of, w8_of, decide_eq_true_eq, decide_eq_false_iff_not, Bool.not_eq_true] at c28
            have c32 := ii_kP_places hσ_40 0
            have c33 := FC_at frσ_40 (c := kP_places) (by first | decide | (rcases hE with rfl | rfl | rfl <;> decide)) 0
            refine wp_bd (s_P_insertInRound (σ := σ_40) (place_0 := i_6) hσ_40 hp40 (by (try dsimp only) <;> first | assumption | omega | ((try simp (disch := omega) only [w32_of, w64_of, w8_of]) <;> first | assumption | omega | (split <;> omega) | (refine And.intro ?_ ?_ <;> split <;> omega)) | omega) (by (try dsimp only) <;> first | assumption | omega | ((try simp (disch := omega) only [w32_of, w64_of, w8_of]) <;> first | assumption | omega | (split <;> omega) | (refine And.intro ?_ ?_ <;> split <;> omega)) | omega)) ?_
            rintro σ_46 - ⟨hσ_46, flσ_46, g34, g35⟩
            have frσ_46 : FC [kP_round, kP_roundSize] [] σ σ_46 := FC_tr frσ_40 flσ_46 (by first | decide | (rcases hE with rfl | rfl | rfl <;> decide)) (by first | decide | (rcases hE with rfl | rfl | rfl <;> decide)) (by simp) (by simp)
            try simp (disch := omega) only [w32_of, w64_of, w8_of] at g34
            have c36 := ii_kP_roundSize hσ_46 0
            try simp (disch := omega) only [w32_of, w64_of, w8_of] at g35
            exact wp_some ⟨hσ_46, frσ_46, (by (try dsimp only) <;> first | assumption | omega | ((try simp (disch := omega) only [w32_of, w64_of, w8_of]) <;> first | assumption | omega | (split <;> omega) | (refine And.intro ?_ ?_ <;> split <;> omega)) | omega), (by (try dsimp only) <;> (first | assumption))⟩
          · try simp (disch := omega) only [w32_of, w64_of, w8_of, decide_eq_true_eq, decide_eq_false_iff_not, Bool.not_eq_true] at c28
            exact wp_some ⟨hσ_40, frσ_40, (by (try dsimp only) <;> first | assumption | omega | ((try simp (disch := omega) only [w32_of, w64_of, w8_of]) <;> first | assumption | omega | (split <;> omega) | (refine And.intro ?_ ?_ <;> split <;> omega)) | omega), (by (try dsimp only) <;> (first | assumption))⟩
        rintro σ_56 _ ⟨hσ_56, frσ_56, g37, hp56⟩
        have c38 := ii_kP_roundSize hσ_56 0
        exact wp_some (x_inl ⟨⟨hσ_56, frσ_56, (by (try dsimp only) <;> first | assumption | omega | ((try simp (disch := omega) only [w32_of, w64_of, w8_of]) <;> first | assumption | omega | (split <;> omega) | (refine And.intro ?_ ?_ <;> split <;> omega)) | omega), (by (try dsimp only) <;> first | assumption | omega | ((try simp (disch := omega) only [w32_of, w64_of, w8_of]) <;> first | assumption | omega | (split <;> omega) | (refine And.intro ?_ ?_ <;> split <;> omega)) | omega), (by (try dsimp only) <;> (first | assumption))⟩, (by (try dsimp only) <;> first | assumption | omega | ((try simp (disch := omega) only [w32_of, w64_of, w8_of]) <;> first | assumption | omega | (split <;> omega) | (refine And.intro ?_ ?_ <;> split <;> omega)) | omega)⟩)
    · try simp (disch := omega) only [w32_of, w64_of, w8_of, decide_eq_true_eq, decide_eq_false_iff_not, Bool.not_eq_true] at c7
      have c39 := ii_kP_roundSize hσ_7 0
      exact wp_some (x_inr ⟨hσ_7, frσ_7, (by (try dsimp only) <;> first | assumption | omega | ((try simp (disch := omega) only [w32_of, w64_of, w8_of]) <;> first | assumption | omega | (split <;> omega) | (refine And.intro ?_ ?_ <;> split <;> omega)) | omega), (by (try dsimp only) <;> (exact hp7))⟩)
  rintro ⟨i_65, σ_66⟩ _ y41
  try dsimp only at y41 ⊢
  obtain ⟨hσ_66, frσ_66, g40, hp66⟩ := y41
  have c42 := ii_kP_roundSize hσ_66 0
  exact wp_some ⟨hσ_66, frσ_66, (by (try dsimp only) <;> (exact hp66)), (by (try dsimp only) <;> first | assumption | omega | ((try simp (disch := omega) only [w32_of, w64_of, w8_of]) <;> first | assumption | omega | (split <;> omega) | (refine And.intro ?_ ?_ <;> split <;> omega)) | omega)⟩
theorem s_P_isTold {σ : SG} {from_0 : Int} {to_0 : Int} (hσ : II σ) (w0 : 0 ≤ from_0 ∧ from_0 < σ kP_places 0) (w1 : 0 ≤ to_0 ∧ to_0 < σ kP_places 0) (w2 : σ kP_places 0 ≤ 514) : wp_ (fP_isTold σ from_0 to_0) (fun zz_ => True) := by
  unfold fP_isTold
  have c1 := ii_kP_places hσ 0
  have hbit := bit_b w0 w1 w2
  have hb6 := isr6 hbit.1 hbit.2
  refine wp_bd (P := fun rr_ => True) ?_ ?_
  · have c2 := q_isr_rng ((from_0 * (σ kP_places 0)) + to_0) 6
    have c3 := w32_rng (q_isr ((from_0 * (σ kP_places 0)) + to_0) 6)
    refine wp_rdI (by (try dsimp only) <;> first | assumption | omega | ((try simp (disch := omega) only [w32_of, w64_of, w8_of]) <;> first | assumption | omega | (split <;> omega) | (refine And.intro ?_ ?_ <;> split <;> omega)) | omega) (by (try dsimp only) <;> first | assumption | omega | ((try simp (disch := omega) only [w32_of, w64_of, w8_of]) <;> first | assumption | omega | (split <;> omega) | (refine And.intro ?_ ?_ <;> split <;> omega)) | omega) (fun x_1 e_x_1 => ?_)
    try simp (disch := omega) only [w32_of, w64_of, w8_of] at e_x_1
    have c5 := q_ian_bd ((from_0 * (σ kP_places 0)) + to_0) (m := 63) (by decide) (by decide)
    try simp (disch := omega) only [w32_of, w64_of, w8_of] at c5
    have c6 := q_lsr_rng x_1 (q_ian ((from_0 * (σ kP_places 0)) + to_0) 63)
    have c7 := q_lan_bd (q_lsr x_1 (q_ian ((from_0 * (σ kP_places 0)) + to_0) 63)) (m := 1) (by decide) (by decide)
    try simp (disch := omega) only [w32_of, w64_of, w8_of] at c7
    have c8 := w64_rng (q_lan (q_lsr x_1 (q_ian ((from_0 * (σ kP_places 0)) + to_0) 63)) 1)
    refine wp_if (fun c4 => ?_) (fun c4 => ?_)
    · try simp (disch := omega) only [w32_of, w64_of, w8_of, decide_eq_true_eq, decide_eq_false_iff_not, Bool.not_eq_true] at c4
      exact wp_some trivial
    · try simp (disch := omega) only [w32_of, w64_of, w8_of, decide_eq_true_eq, decide_eq_false_iff_not, Bool.not_eq_true] at c4
      exact wp_some trivial
  rintro x_6 _ -
  exact wp_some trivial
theorem s_P_setTold {σ : SG} {from_0 : Int} {to_0 : Int} (hσ : II σ) (w0 : 0 ≤ from_0 ∧ from_0 < σ kP_places 0) (w1 : 0 ≤ to_0 ∧ to_0 < σ kP_places 0) (w2 : σ kP_places 0 ≤ 514) : wp_ (fP_setTold σ from_0 to_0) (fun zz_ => II zz_ ∧ FC [kP_told] [] σ zz_) := by
  unfold fP_setTold
  have c1 := ii_kP_places hσ 0
  have hbit := bit_b w0 w1 w2
  have hb6 := isr6 hbit.1 hbit.2
  have c2 := q_isr_rng ((from_0 * (σ kP_places 0)) + to_0) 6
  have c3 := w32_rng (q_isr ((from_0 * (σ kP_places 0)) + to_0) 6)
  refine wp_rdI (by (try dsimp only) <;> first | assumption | omega | ((try simp (disch := omega) only [w32_of, w64_of, w8_of]) <;> first | assumption | omega | (split <;> omega) | (refine And.intro ?_ ?_ <;> split <;> omega)) | omega) (by (try dsimp only) <;> first | assumption | omega | ((try simp (disch := omega) only [w32_of, w64_of, w8_of]) <;> first | assumption | omega | (split <;> omega) | (refine And.intro ?_ ?_ <;> split <;> omega)) | omega) (fun x_1 e_x_1 => ?_)
  try simp (disch := omega) only [w32_of, w64_of, w8_of] at e_x_1
  have c4 := q_ian_bd ((from_0 * (σ kP_places 0)) + to_0) (m := 63) (by decide) (by decide)
  try simp (disch := omega) only [w32_of, w64_of, w8_of] at c4
  have c5 := q_lsl_rng 1 (q_ian ((from_0 * (σ kP_places 0)) + to_0) 63)
  have c6 := q_lor_rng x_1 (q_lsl 1 (q_ian ((from_0 * (σ kP_places 0)) + to_0) 63))
  refine wp_waN hσ b_kP_told (by (try dsimp only) <;> first | assumption | omega | ((try simp (disch := omega) only [w32_of, w64_of, w8_of]) <;> first | assumption | omega | (split <;> omega) | (refine And.intro ?_ ?_ <;> split <;> omega)) | omega) (by (try dsimp only) <;> first | assumption | omega | ((try simp (disch := omega) only [w32_of, w64_of, w8_of]) <;> first | assumption | omega | (split <;> omega) | (refine And.intro ?_ ?_ <;> split <;> omega)) | omega) (fun σ_3 hσ_3 eσ_3 => ?_)
  try simp (disch := omega) only [w32_of, w64_of, w8_of] at eσ_3
  have flσ_3 := FC_sg eσ_3 (by first | decide | (rcases hE with rfl | rfl | rfl <;> decide))
  have frσ_3 : FC [kP_told] [] σ σ_3 := FC_le flσ_3 (by first | decide | (rcases hE with rfl | rfl | rfl <;> decide)) (by simp)
  exact wp_some ⟨hσ_3, frσ_3⟩
theorem s_P_pushWay {σ : SG} {from_0 : Int} {to_0 : Int} (hσ : II σ) (w0 : PWs σ) (w1 : 0 ≤ from_0 ∧ from_0 < σ kP_places 0) (w2 : 0 ≤ to_0 ∧ to_0 < σ kP_places 0) (w3 : σ kP_places 0 ≤ 514) : wp_ (fP_pushWay σ from_0 to_0) (fun zz_ => II zz_ ∧ FC [kP_wayFrom, kP_wayTo, kP_ways] [] σ zz_ ∧ (PWs zz_)) := by
  unfold fP_pushWay
  have c1 := ii_kP_places hσ 0
  have hpc := ii_kP_places hσ 0
  refine wp_bd (P := fun rr_ => II rr_ ∧ FC [kP_wayFrom, kP_wayTo, kP_ways] [] σ rr_ ∧ (PWs rr_)) ?_ ?_
  · have c3 := ii_kP_ways hσ 0
    have c4 := w32_rng (σ kP_ways 0)
    refine wp_if (fun c2 => ?_) (fun c2 => ?_)
    · try simp (disch := omega) only [w32_of, w64_of, w8_of, decide_eq_true_eq, decide_eq_false_iff_not, Bool.not_eq_true] at c2
      refine wp_bd (s_P_isTold (σ := σ) (from_0 := from_0) (to_0 := to_0) hσ (by (try dsimp only) <;> first | assumption | omega | ((try simp (disch := omega) only [w32_of, w64_of, w8_of]) <;> first | assumption | omega | (split <;> omega) | (refine And.intro ?_ ?_ <;> split <;> omega)) | omega) (by (try dsimp only) <;> first | assumption | omega | ((try simp (disch := omega) only [w32_of, w64_of, w8_of]) <;> first | assumption | omega | (split <;> omega) | (refine And.intro ?_ ?_ <;> split <;> omega)) | omega) (by (try dsimp only) <;> first | assumption | omega | ((try simp (disch := omega) only [w32_of, w64_of, w8_of]) <;> first | assumption | omega | (split <;> omega) | (refine And.intro ?_ ?_ <;> split <;> omega)) | omega)) ?_
      rintro x_15 - -
      refine wp_if (fun c6 => ?_) (fun c6 => ?_)
      · try simp (disch := omega) only [w32_of, w64_of, w8_of, decide_eq_true_eq, decide_eq_false_iff_not, Bool.not_eq_true] at c6
        exact wp_some ⟨hσ, (FC_refl _ _ _), (by (try dsimp only) <;> (first | exact w0 | exact PWs_push w0 eσ_18 eσ_20 eσ_22 (by omega) (by omega)))⟩
      · try simp (disch := omega) only [w32_of, w64_of, w8_of, decide_eq_true_eq, decide_eq_false_iff_not, Bool.not_eq_true] at c6
        refine wp_waI hσ b_kP_wayFrom (by (try dsimp only) <;> first | assumption | omega | ((try simp (disch := omega) only [w32_of, w64_of, w8_of]) <;> first | assumption | omega | (split <;> omega) | (refine And.intro ?_ ?_ <;> split <;> omega)) | omega) (by (try dsimp only) <;> first | assumption | omega | ((try simp (disch := omega) only [w32_of, w64_of, w8_of]) <;> first | assumption | omega | (split <;> omega) | (refine And.intro ?_ ?_ <;> split <;> omega)) | omega) (by (try dsimp only) <;> first | assumption | omega | ((try simp (disch := omega) only [w32_of, w64_of, w8_of]) <;> first | assumption | omega | (split <;> omega) | (refine And.intro ?_ ?_ <;> split <;> omega)) | omega) (fun σ_18 hσ_18 eσ_18 => ?_)
        try simp (disch := omega) only [w32_of, w64_of, w8_of] at eσ_18
        have flσ_18 := FC_sg eσ_18 (by first | decide | (rcases hE with rfl | rfl | rfl <;> decide))
        have frσ_18 : FC [kP_wayFrom, kP_wayTo, kP_ways] [] σ σ_18 := FC_le flσ_18 (by first | decide | (rcases hE with rfl | rfl | rfl <;> decide)) (by simp)
        have c7 := ii_kP_ways hσ_18 0
        have c8 := FC_at flσ_18 (c := kP_ways) (by first | decide | (rcases hE with rfl | rfl | rfl <;> decide)) 0
        have c9 := w32_rng (σ_18 kP_ways 0)
        refine wp_waI hσ_18 b_kP_wayTo (by (try dsimp only) <;> first | assumption | omega | ((try simp (disch := omega) only [w32_of, w64_of, w8_of]) <;> first | assumption | omega | (split <;> omega) | (refine And.intro ?_ ?_ <;> split <;> omega)) | omega) (by (try dsimp only) <;> first | assumption | omega | ((try simp (disch := omega) only [w32_of, w64_of, w8_of]) <;> first | assumption | omega | (split <;> omega) | (refine And.intro ?_ ?_ <;> split <;> omega)) | omega) (by (try dsimp only) <;> first | assumption | omega | ((try simp (disch := omega) only [w32_of, w64_of, w8_of]) <;> first | assumption | omega | (split <;> omega) | (refine And.intro ?_ ?_ <;> split <;> omega)) | omega) (fun σ_20 hσ_20 eσ_20 => ?_)
        try simp (disch := omega) only [w32_of, w64_of, w8_of] at eσ_20
        have flσ_20 := FC_sg eσ_20 (by first | decide | (rcases hE with rfl | rfl | rfl <;> decide))
        have frσ_20 : FC [kP_wayFrom, kP_wayTo, kP_ways] [] σ σ_20 := FC_tr frσ_18 flσ_20 (by first | decide | (rcases hE with rfl | rfl | rfl <;> decide)) (by first | decide | (rcases hE with rfl | rfl | rfl <;> decide)) (by simp) (by simp)
        have c10 := ii_kP_ways hσ_20 0
        have c11 := FC_at flσ_20 (c := kP_ways) (by first | decide | (rcases hE with rfl | rfl | rfl <;> decide)) 0
        refine wp_wfI hσ_20 b_kP_ways (by (try dsimp only) <;> first | assumption | omega | ((try simp (disch := omega) only [w32_of, w64_of, w8_of]) <;> first | assumption | omega | (split <;> omega) | (refine And.intro ?_ ?_ <;> split <;> omega)) | omega) (fun σ_22 hσ_22 eσ_22 => ?_)
        try simp (disch := omega) only [w32_of, w64_of, w8_of] at eσ_22
        have flσ_22 := FC_sg eσ_22 (by first | decide | (rcases hE with rfl | rfl | rfl <;> decide))
        have frσ_22 : FC [kP_wayFrom, kP_wayTo, kP_ways] [] σ σ_22 := FC_tr frσ_20 flσ_22 (by first | decide | (rcases hE with rfl | rfl | rfl <;> decide)) (by first | decide | (rcases hE with rfl | rfl | rfl <;> decide)) (by simp) (by simp)
        exact wp_some ⟨hσ_22, frσ_22, (by (try dsimp only) <;> (first | exact w0 | exact PWs_push w0 eσ_18 eσ_20 eσ_22 (by omega) (by omega)))⟩
    · try simp (disch := omega) only [w32_of, w64_of, w8_of, decide_eq_true_eq, decide_eq_false_iff_not, Bool.not_eq_true] at c2
      exact wp_some ⟨hσ, (FC_refl _ _ _), (by (try dsimp only) <;> (first | exact w0 | exact PWs_push w0 eσ_18 eσ_20 eσ_22 (by omega) (by omega)))⟩
  rintro σ_25 _ ⟨hσ_25, frσ_25, hpw⟩
  exact wp_some ⟨hσ_25, frσ_25, (by (try dsimp only) <;> (exact hpw))⟩
theorem s_P_tellRound {σ : SG} (hσ : II σ) (w0 : PWs σ) (w1 : PRs σ) (w2 : σ kP_places 0 ≤ 514) (w3 : 2 ≤ σ kP_roundSize 0 ∧ σ kP_roundSize 0 ≤ 514) : wp_ (fP_tellRound σ) (fun zz_ => II zz_.2 ∧ FC [kP_told, kP_triangle, kP_triangleCount, kP_wayFrom, kP_wayTo, kP_ways] [] σ zz_.2 ∧ (PWs zz_.2)) := by
  unfold fP_tellRound
  have c1 := ii_kP_places hσ 0
  have c2 := ii_kP_roundSize hσ 0
  have hpc := ii_kP_places hσ 0
  refine wp_bd (P := fun rr_ => II rr_.2.2 ∧ FC [kP_told, kP_triangle, kP_triangleCount, kP_wayFrom, kP_wayTo, kP_ways] [] σ rr_.2.2 ∧ (0 ≤ rr_.1 ∧ rr_.1 < σ kP_roundSize 0) ∧ (PWs rr_.2.2)) ?_ ?_
  · refine wp_whl (fun ss_ => II ss_.2.2 ∧ FC [kP_told, kP_triangle, kP_triangleCount, kP_wayFrom, kP_wayTo, kP_ways] [] σ ss_.2.2 ∧ (0 ≤ ss_.2.1 ∧ ss_.2.1 ≤ 514) ∧ (0 ≤ ss_.1 ∧ ss_.1 < σ kP_roundSize 0) ∧ (PWs ss_.2.2)) (fun ss_ => (515 - ss_.2.1).toNat) ⟨hσ, (FC_refl _ _ _), (by (try dsimp only) <;> first | assumption | omega | ((try simp (disch := omega) only [w32_of, w64_of, w8_of]) <;> first | assumption | omega | (split <;> omega) | (refine And.intro ?_ ?_ <;> split <;> omega)) | omega), (by (try dsimp only) <;> first | assumption | omega | ((try simp (disch := omega) only [w32_of, w64_of, w8_of]) <;> first | assumption | omega | (split <;> omega) | (refine And.intro ?_ ?_ <;> split <;> omega)) | omega), (by (try dsimp only) <;> (first | assumption))⟩ ?_
    rintro ⟨least_1, k_2, σ_3⟩ y5
    try dsimp only at y5 ⊢
    obtain ⟨hσ_3, frσ_3, g3, g4, hpw⟩ := y5
    have c7 := w32_rng k_2
    have c8 := ii_kP_roundSize hσ_3 0
    have c9 := FC_at frσ_3 (c := kP_roundSize) (by first | decide | (rcases hE with rfl | rfl | rfl <;> decide)) 0
    have c10 := w32_rng (σ_3 kP_roundSize 0)
    refine wp_if (fun c6 => ?_) (fun c6 => ?_)
    · try simp (disch := omega) only [w32_of, w64_of, w8_of, decide_eq_true_eq, decide_eq_false_iff_not, Bool.not_eq_true] at c6
      refine wp_bd (P := fun rr_ => (0 ≤ rr_ ∧ rr_ < σ kP_roundSize 0)) ?_ ?_
      · refine wp_rdI (by (try dsimp only) <;> first | assumption | omega | ((try simp (disch := omega) only [w32_of, w64_of, w8_of]) <;> first | assumption | omega | (split <;> omega) | (refine And.intro ?_ ?_ <;> split <;> omega)) | omega) (by (try dsimp only) <;> first | assumption | omega | ((try simp (disch := omega) only [w32_of, w64_of, w8_of]) <;> first | assumption | omega | (split <;> omega) | (refine And.intro ?_ ?_ <;> split <;> omega)) | omega) (fun x_12 e_x_12 => ?_)
        have b_x_12 : 0 ≤ x_12 ∧ x_12 ≤ 1023 := by rw [e_x_12]; exact ii_kP_round hσ_3 _
        rw [FC_at frσ_3 (c := kP_round) (by first | decide | (rcases hE with rfl | rfl | rfl <;> decide))] at e_x_12
        try simp (disch := omega) only [w32_of, w64_of, w8_of] at e_x_12
        have c11 := ii_kP_round hσ_3 k_2
        have c12 := FC_at frσ_3 (c := kP_round) (by first | decide | (rcases hE with rfl | rfl | rfl <;> decide)) k_2
        have c13 := ii_kP_round hσ k_2
        have c14 := w32_rng least_1
        refine wp_rdI (by (try dsimp only) <;> first | assumption | omega | ((try simp (disch := omega) only [w32_of, w64_of, w8_of]) <;> first | assumption | omega | (split <;> omega) | (refine And.intro ?_ ?_ <;> split <;> omega)) | omega) (by (try dsimp only) <;> first | assumption | omega | ((try simp (disch := omega) only [w32_of, w64_of, w8_of]) <;> first | assumption | omega | (split <;> omega) | (refine And.intro ?_ ?_ <;> split <;> omega)) | omega) (fun x_14 e_x_14 => ?_)
        have b_x_14 : 0 ≤ x_14 ∧ x_14 ≤ 1023 := by rw [e_x_14]; exact ii_kP_round hσ_3 _
        rw [FC_at frσ_3 (c := kP_round) (by first | decide | (rcases hE with rfl | rfl | rfl <;> decide))] at e_x_14
        try simp (disch := omega) only [w32_of, w64_of, w8_of] at e_x_14
        have c15 := ii_kP_round hσ_3 least_1
        have c16 := FC_at frσ_3 (c := kP_round) (by first | decide | (rcases hE with rfl | rfl | rfl <;> decide)) least_1
        have c17 := ii_kP_round hσ least_1
        have c19 := w32_rng x_12
        have c20 := w32_rng x_14
        refine wp_if (fun c18 => ?_) (fun c18 => ?_)
        · try simp (disch := omega) only [w32_of, w64_of, w8_of, decide_eq_true_eq, decide_eq_false_iff_not, Bool.not_eq_true] at c18
          exact wp_some (by (try dsimp only) <;> first | assumption | omega | ((try simp (disch := omega) only [w32_of, w64_of, w8_of]) <;> first | assumption | omega | (split <;> omega) | (refine And.intro ?_ ?_ <;> split <;> omega)) | omega)
        · try simp (disch := omega) only [w32_of, w64_of, w8_of, decide_eq_true_eq, decide_eq_false_iff_not, Bool.not_eq_true] at c18
          exact wp_some (by (try dsimp only) <;> first | assumption | omega | ((try simp (disch := omega) only [w32_of, w64_of, w8_of]) <;> first | assumption | omega | (split <;> omega) | (refine And.intro ?_ ?_ <;> split <;> omega)) | omega)
      rintro x_19 _ g21
      refine wp_rdI (by (try dsimp only) <;> first | assumption | omega | ((try simp (disch := omega) only [w32_of, w64_of, w8_of]) <;> first | assumption | omega | (split <;> omega) | (refine And.intro ?_ ?_ <;> split <;> omega)) | omega) (by (try dsimp only) <;> first | assumption | omega | ((try simp (disch := omega) only [w32_of, w64_of, w8_of]) <;> first | assumption | omega | (split <;> omega) | (refine And.intro ?_ ?_ <;> split <;> omega)) | omega) (fun x_20 e_x_20 => ?_)
      have b_x_20 : 0 ≤ x_20 ∧ x_20 ≤ 1023 := by rw [e_x_20]; exact ii_kP_round hσ_3 _
      rw [FC_at frσ_3 (c := kP_round) (by first | decide | (rcases hE with rfl | rfl | rfl <;> decide))] at e_x_20
      try simp (disch := omega) only [w32_of, w64_of, w8_of] at e_x_20
      have c22 := ii_kP_round hσ_3 k_2
      have c23 := FC_at frσ_3 (c := kP_round) (by first | decide | (rcases hE with rfl | rfl | rfl <;> decide)) k_2
      have c24 := ii_kP_round hσ k_2
      have hr1 := w1 k_2 (by omega) (by omega)
      rw [← e_x_20] at hr1
      have c25 := w32_rng (k_2 + 1)
      have c26 := w32_rng (if ((w32 (k_2 + 1)) < (w32 (σ_3 kP_roundSize 0))) then (k_2 + 1) else 0)
      refine wp_rdI (by (try dsimp only) <;> first | assumption | omega | ((try simp (disch := omega) only [w32_of, w64_of, w8_of]) <;> first | assumption | omega | (split <;> omega) | (refine And.intro ?_ ?_ <;> split <;> omega)) | omega) (by (try dsimp only) <;> first | assumption | omega | ((try simp (disch := omega) only [w32_of, w64_of, w8_of]) <;> first | assumption | omega | (split <;> omega) | (refine And.intro ?_ ?_ <;> split <;> omega)) | omega) (fun x_23 e_x_23 => ?_)
      have b_x_23 : 0 ≤ x_23 ∧ x_23 ≤ 1023 := by rw [e_x_23]; exact ii_kP_round hσ_3 _
      rw [FC_at frσ_3 (c := kP_round) (by first | decide | (rcases hE with rfl | rfl | rfl <;> decide))] at e_x_23
      try simp (disch := omega) only [w32_of, w64_of, w8_of] at e_x_23
      have c27 := ii_kP_round hσ_3 (if ((w32 (k_2 + 1)) < (w32 (σ_3 kP_roundSize 0))) then (k_2 + 1) else 0)
      have c28 := FC_at frσ_3 (c := kP_round) (by first | decide | (rcases hE with rfl | rfl | rfl <;> decide)) (if ((w32 (k_2 + 1)) < (w32 (σ_3 kP_roundSize 0))) then (k_2 + 1) else 0)
      have c29 := ii_kP_round hσ (if ((w32 (k_2 + 1)) < (w32 (σ_3 kP_roundSize 0))) then (k_2 + 1) else 0)
      have hr2 : 0 ≤ x_23 ∧ x_23 < σ kP_places 0 := by
        rw [e_x_23]; exact w1 _ (by split <;> omega) (by split <;> omega)
      have c30 := ii_kP_places hσ_3 0
      have c31 := FC_at frσ_3 (c := kP_places) (by first | decide | (rcases hE with rfl | rfl | rfl <;> decide)) 0
      refine wp_bd (s_P_setTold (σ := σ_3) (from_0 := x_20) (to_0 := x_23) hσ_3 (by (try dsimp only) <;> first | assumption | omega | ((try simp (disch := omega) only [w32_of, w64_of, w8_of]) <;> first | assumption | omega | (split <;> omega) | (refine And.intro ?_ ?_ <;> split <;> omega)) | omega) (by (try dsimp only) <;> first | assumption | omega | ((try simp (disch := omega) only [w32_of, w64_of, w8_of]) <;> first | assumption | omega | (split <;> omega) | (refine And.intro ?_ ?_ <;> split <;> omega)) | omega) (by (try dsimp only) <;> first | assumption | omega | ((try simp (disch := omega) only [w32_of, w64_of, w8_of]) <;> first | assumption | omega | (split <;> omega) | (refine And.intro ?_ ?_ <;> split <;> omega)) | omega)) ?_
      rintro σ_26 - ⟨hσ_26, flσ_26⟩
      have frσ_26 : FC [kP_told, kP_triangle, kP_triangleCount, kP_wayFrom, kP_wayTo, kP_ways] [] σ σ_26 := FC_tr frσ_3 flσ_26 (by first | decide | (rcases hE with rfl | rfl | rfl <;> decide)) (by first | decide | (rcases hE with rfl | rfl | rfl <;> decide)) (by simp) (by simp)
      have c32 := ii_kP_places hσ_26 0
      have c33 := FC_at flσ_26 (c := kP_places) (by first | decide | (rcases hE with rfl | rfl | rfl <;> decide)) 0
      refine wp_bd (s_P_pushWay (σ := σ_26) (from_0 := x_23) (to_0 := x_20) hσ_26 (PWs_f flσ_26 (by decide) hpw) (by (try dsimp only) <;> first | assumption | omega | ((try simp (disch := omega) only [w32_of, w64_of, w8_of]) <;> first | assumption | omega | (split <;> omega) | (refine And.intro ?_ ?_ <;> split <;> omega)) | omega) (by (try dsimp only) <;> first | assumption | omega | ((try simp (disch := omega) only [w32_of, w64_of, w8_of]) <;> first | assumption | omega | (split <;> omega) | (refine And.intro ?_ ?_ <;> split <;> omega)) | omega) (by (try dsimp only) <;> first | assumption | omega | ((try simp (disch := omega) only [w32_of, w64_of, w8_of]) <;> first | assumption | omega | (split <;> omega) | (refine And.intro ?_ ?_ <;> split <;> omega)) | omega)) ?_
      rintro σ_28 - ⟨hσ_28, flσ_28, g34⟩
      have frσ_28 : FC [kP_told, kP_triangle, kP_triangleCount, kP_wayFrom, kP_wayTo, kP_ways] [] σ σ_28 := FC_tr frσ_26 flσ_28 (by first | decide | (rcases hE with rfl | rfl | rfl <;> decide)) (by first | decide | (rcases hE with rfl | rfl | rfl <;> decide)) (by simp) (by simp)
      try simp (disch := omega) only [w32_of, w64_of, w8_of] at g34
      exact wp_some (x_inl ⟨⟨hσ_28, frσ_28, (by (try dsimp only) <;> first | assumption | omega | ((try simp (disch := omega) only [w32_of, w64_of, w8_of]) <;> first | assumption | omega | (split <;> omega) | (refine And.intro ?_ ?_ <;> split <;> omega)) | omega), (by (try dsimp only) <;> first | assumption | omega | ((try simp (disch := omega) only [w32_of, w64_of, w8_of]) <;> first | assumption | omega | (split <;> omega) | (refine And.intro ?_ ?_ <;> split <;> omega)) | omega), (by (try dsimp only) <;> (first | assumption))⟩, (by (try dsimp only) <;> first | assumption | omega | ((try simp (disch := omega) only [w32_of, w64_of, w8_of]) <;> first | assumption | omega | (split <;> omega) | (refine And.intro ?_ ?_ <;> split <;> omega)) | omega)⟩)
    · try simp (disch := omega) only [w32_of, w64_of, w8_of, decide_eq_true_eq, decide_eq_false_iff_not, Bool.not_eq_true] at c6
      exact wp_some (x_inr ⟨hσ_3, frσ_3, (by (try dsimp only) <;> first | assumption | omega | ((try simp (disch := omega) only [w32_of, w64_of, w8_of]) <;> first | assumption | omega | (split <;> omega) | (refine And.intro ?_ ?_ <;> split <;> omega)) | omega), (by (try dsimp only) <;> (exact hpw))⟩)
  rintro ⟨least_36, k_37, σ_38⟩ _ y36
  try dsimp only at y36 ⊢
  obtain ⟨hσ_38, frσ_38, g35, hpw38⟩ := y36
  refine wp_bx (P := fun rr_ => II rr_.2 ∧ FC [kP_told, kP_triangle, kP_triangleCount, kP_wayFrom, kP_wayTo, kP_ways] [] σ rr_.2 ∧ (PWs rr_.2)) ?_ ?_
  · refine wp_whl (fun ss_ => II ss_.2 ∧ FC [kP_told, kP_triangle, kP_triangleCount, kP_wayFrom, kP_wayTo, kP_ways] [] σ ss_.2 ∧ (1 ≤ ss_.1 ∧ ss_.1 ≤ 514) ∧ (PWs ss_.2)) (fun ss_ => (515 - ss_.1).toNat) ⟨hσ_38, frσ_38, (by (try dsimp only) <;> first | assumption | omega | ((try simp (disch := omega) only [w32_of, w64_of, w8_of]) <;> first | assumption | omega | (split <;> omega) | (refine And.intro ?_ ?_ <;> split <;> omega)) | omega), (by (try dsimp only) <;> (first | assumption | exact PWs_f flσ_66 (by decide) (PWs_f flσ_64 (by decide) hpw40)))⟩ ?_
    rintro ⟨k_39, σ_40⟩ y38
    try dsimp only at y38 ⊢
    obtain ⟨hσ_40, frσ_40, g37, hpw40⟩ := y38
    have c40 := w32_rng (k_39 + 1)
    have c41 := ii_kP_roundSize hσ_40 0
    have c42 := FC_at frσ_40 (c := kP_roundSize) (by first | decide | (rcases hE with rfl | rfl | rfl <;> decide)) 0
    have c43 := w32_rng (σ_40 kP_roundSize 0)
    refine wp_if (fun c39 => ?_) (fun c39 => ?_)
    · try simp (disch := omega) only [w32_of, w64_of, w8_of, decide_eq_true_eq, decide_eq_false_iff_not, Bool.not_eq_true] at c39
      have c45 := ii_kP_triangleCount hσ_40 0
      have c46 := w32_rng (σ_40 kP_triangleCount 0)
      refine wp_if (fun c44 => ?_) (fun c44 => ?_)
      · try simp (disch := omega) only [w32_of, w64_of, w8_of, decide_eq_true_eq, decide_eq_false_iff_not, Bool.not_eq_true] at c44
        exact wp_some (x_inr (x_inr ⟨hσ_40, frσ_40, (by (try dsimp only) <;> (first | assumption | exact PWs_f frσ_38 (by decide) w0))⟩))
      · try simp (disch := omega) only [w32_of, w64_of, w8_of, decide_eq_true_eq, decide_eq_false_iff_not, Bool.not_eq_true] at c44
        have c47 := w32_rng least_36
        refine wp_rdI (by (try dsimp only) <;> first | assumption | omega | ((try simp (disch := omega) only [w32_of, w64_of, w8_of]) <;> first | assumption | omega | (split <;> omega) | (refine And.intro ?_ ?_ <;> split <;> omega)) | omega) (by (try dsimp only) <;> first | assumption | omega | ((try simp (disch := omega) only [w32_of, w64_of, w8_of]) <;> first | assumption | omega | (split <;> omega) | (refine And.intro ?_ ?_ <;> split <;> omega)) | omega) (fun x_50 e_x_50 => ?_)
        have b_x_50 : 0 ≤ x_50 ∧ x_50 ≤ 1023 := by rw [e_x_50]; exact ii_kP_round hσ_40 _
        rw [FC_at frσ_40 (c := kP_round) (by first | decide | (rcases hE with rfl | rfl | rfl <;> decide))] at e_x_50
        try simp (disch := omega) only [w32_of, w64_of, w8_of] at e_x_50
        have c48 := ii_kP_round hσ_40 least_36
        have c49 := FC_at frσ_40 (c := kP_round) (by first | decide | (rcases hE with rfl | rfl | rfl <;> decide)) least_36
        have c50 := ii_kP_round hσ least_36
        have c51 := w32_rng x_50
        refine wp_rdI (by (try dsimp only) <;> first | assumption | omega | ((try simp (disch := omega) only [w32_of, w64_of, w8_of]) <;> first | assumption | omega | (split <;> omega) | (refine And.intro ?_ ?_ <;> split <;> omega)) | omega) (by (try dsimp only) <;> first | assumption | omega | ((try simp (disch := omega) only [w32_of, w64_of, w8_of]) <;> first | assumption | omega | (split <;> omega) | (refine And.intro ?_ ?_ <;> split <;> omega)) | omega) (fun x_52 e_x_52 => ?_)
        have b_x_52 : (-1) ≤ x_52 ∧ x_52 ≤ 1023 := by rw [e_x_52]; exact ii_kP_numberOf hσ_40 _
        rw [FC_at frσ_40 (c := kP_numberOf) (by first | decide | (rcases hE with rfl | rfl | rfl <;> decide))] at e_x_52
        try simp (disch := omega) only [w32_of, w64_of, w8_of] at e_x_52
        have c52 := ii_kP_numberOf hσ_40 x_50
        have c53 := FC_at frσ_40 (c := kP_numberOf) (by first | decide | (rcases hE with rfl | rfl | rfl <;> decide)) x_50
        have c54 := ii_kP_numberOf hσ x_50
        refine wp_ck (by (try dsimp only) <;> first | assumption | omega | ((try simp (disch := omega) only [w32_of, w64_of, w8_of]) <;> first | assumption | omega | (split <;> omega) | (refine And.intro ?_ ?_ <;> split <;> omega)) | omega) ?_
        have hm1 := q_irm_bd (least_36 + k_39) (σ_40 kP_roundSize 0) (by rw [w32_of (by omega) (by omega)]; omega)
        rw [w32_of (x := least_36 + k_39) (by omega) (by omega), w32_of (x := σ_40 kP_roundSize 0) (by omega) (by omega)] at hm1
        have c55 := q_irm_bd (least_36 + k_39) (σ_40 kP_roundSize 0) (by (try dsimp only) <;> first | assumption | omega | ((try simp (disch := omega) only [w32_of, w64_of, w8_of]) <;> first | assumption | omega | (split <;> omega) | (refine And.intro ?_ ?_ <;> split <;> omega)) | omega)
        try simp (disch := omega) only [w32_of, w64_of, w8_of] at c55
        have c56 := w32_rng (q_irm (least_36 + k_39) (σ_40 kP_roundSize 0))
        refine wp_rdI (by (try dsimp only) <;> first | assumption | omega | ((try simp (disch := omega) only [w32_of, w64_of, w8_of]) <;> first | assumption | omega | (split <;> omega) | (refine And.intro ?_ ?_ <;> split <;> omega)) | omega) (by (try dsimp only) <;> first | assumption | omega | ((try simp (disch := omega) only [w32_of, w64_of, w8_of]) <;> first | assumption | omega | (split <;> omega) | (refine And.intro ?_ ?_ <;> split <;> omega)) | omega) (fun x_55 e_x_55 => ?_)
        have b_x_55 : 0 ≤ x_55 ∧ x_55 ≤ 1023 := by rw [e_x_55]; exact ii_kP_round hσ_40 _
        rw [FC_at frσ_40 (c := kP_round) (by first | decide | (rcases hE with rfl | rfl | rfl <;> decide))] at e_x_55
        try simp (disch := omega) only [w32_of, w64_of, w8_of] at e_x_55
        have c57 := ii_kP_round hσ_40 (q_irm (least_36 + k_39) (σ_40 kP_roundSize 0))
        have c58 := FC_at frσ_40 (c := kP_round) (by first | decide | (rcases hE with rfl | rfl | rfl <;> decide)) (q_irm (least_36 + k_39) (σ_40 kP_roundSize 0))
        have c59 := ii_kP_round hσ (q_irm (least_36 + k_39) (σ_40 kP_roundSize 0))
        have c60 := w32_rng x_55
        refine wp_rdI (by (try dsimp only) <;> first | assumption | omega | ((try simp (disch := omega) only [w32_of, w64_of, w8_of]) <;> first | assumption | omega | (split <;> omega) | (refine And.intro ?_ ?_ <;> split <;> omega)) | omega) (by (try dsimp only) <;> first | assumption | omega | ((try simp (disch := omega) only [w32_of, w64_of, w8_of]) <;> first | assumption | omega | (split <;> omega) | (refine And.intro ?_ ?_ <;> split <;> omega)) | omega) (fun x_57 e_x_57 => ?_)
        have b_x_57 : (-1) ≤ x_57 ∧ x_57 ≤ 1023 := by rw [e_x_57]; exact ii_kP_numberOf hσ_40 _
        rw [FC_at frσ_40 (c := kP_numberOf) (by first | decide | (rcases hE with rfl | rfl | rfl <;> decide))] at e_x_57
        try simp (disch := omega) only [w32_of, w64_of, w8_of] at e_x_57
        have c61 := ii_kP_numberOf hσ_40 x_55
        have c62 := FC_at frσ_40 (c := kP_numberOf) (by first | decide | (rcases hE with rfl | rfl | rfl <;> decide)) x_55
        have c63 := ii_kP_numberOf hσ x_55
        refine wp_ck (by (try dsimp only) <;> first | assumption | omega | ((try simp (disch := omega) only [w32_of, w64_of, w8_of]) <;> first | assumption | omega | (split <;> omega) | (refine And.intro ?_ ?_ <;> split <;> omega)) | omega) ?_
        have hm2 := q_irm_bd (least_36 + k_39 + 1) (σ_40 kP_roundSize 0) (by rw [w32_of (by omega) (by omega)]; omega)
        rw [w32_of (x := least_36 + k_39 + 1) (by omega) (by omega), w32_of (x := σ_40 kP_roundSize 0) (by omega) (by omega)] at hm2
        have c64 := q_irm_bd ((least_36 + k_39) + 1) (σ_40 kP_roundSize 0) (by (try dsimp only) <;> first | assumption | omega | ((try simp (disch := omega) only [w32_of, w64_of, w8_of]) <;> first | assumption | omega | (split <;> omega) | (refine And.intro ?_ ?_ <;> split <;> omega)) | omega)
        try simp (disch := omega) only [w32_of, w64_of, w8_of] at c64
        have c65 := w32_rng (q_irm ((least_36 + k_39) + 1) (σ_40 kP_roundSize 0))
        refine wp_rdI (by (try dsimp only) <;> first | assumption | omega | ((try simp (disch := omega) only [w32_of, w64_of, w8_of]) <;> first | assumption | omega | (split <;> omega) | (refine And.intro ?_ ?_ <;> split <;> omega)) | omega) (by (try dsimp only) <;> first | assumption | omega | ((try simp (disch := omega) only [w32_of, w64_of, w8_of]) <;> first | assumption | omega | (split <;> omega) | (refine And.intro ?_ ?_ <;> split <;> omega)) | omega) (fun x_60 e_x_60 => ?_)
        have b_x_60 : 0 ≤ x_60 ∧ x_60 ≤ 1023 := by rw [e_x_60]; exact ii_kP_round hσ_40 _
        rw [FC_at frσ_40 (c := kP_round) (by first | decide | (rcases hE with rfl | rfl | rfl <;> decide))] at e_x_60
        try simp (disch := omega) only [w32_of, w64_of, w8_of] at e_x_60
        have c66 := ii_kP_round hσ_40 (q_irm ((least_36 + k_39) + 1) (σ_40 kP_roundSize 0))
        have c67 := FC_at frσ_40 (c := kP_round) (by first | decide | (rcases hE with rfl | rfl | rfl <;> decide)) (q_irm ((least_36 + k_39) + 1) (σ_40 kP_roundSize 0))
        have c68 := ii_kP_round hσ (q_irm ((least_36 + k_39) + 1) (σ_40 kP_roundSize 0))
        have c69 := w32_rng x_60
        refine wp_rdI (by (try dsimp only) <;> first | assumption | omega | ((try simp (disch := omega) only [w32_of, w64_of, w8_of]) <;> first | assumption | omega | (split <;> omega) | (refine And.intro ?_ ?_ <;> split <;> omega)) | omega) (by (try dsimp only) <;> first | assumption | omega | ((try simp (disch := omega) only [w32_of, w64_of, w8_of]) <;> first | assumption | omega | (split <;> omega) | (refine And.intro ?_ ?_ <;> split <;> omega)) | omega) (fun x_62 e_x_62 => ?_)
        have b_x_62 : (-1) ≤ x_62 ∧ x_62 ≤ 1023 := by rw [e_x_62]; exact ii_kP_numberOf hσ_40 _
        rw [FC_at frσ_40 (c := kP_numberOf) (by first | decide | (rcases hE with rfl | rfl | rfl <;> decide))] at e_x_62
        try simp (disch := omega) only [w32_of, w64_of, w8_of] at e_x_62
        have c70 := ii_kP_numberOf hσ_40 x_60
        have c71 := FC_at frσ_40 (c := kP_numberOf) (by first | decide | (rcases hE with rfl | rfl | rfl <;> decide)) x_60
        have c72 := ii_kP_numberOf hσ x_60
        have c73 := w32_rng x_52
        have c74 := w32_rng x_57
        have c75 := w32_rng x_62
        refine wp_waN hσ_40 b_kP_triangle (by (try dsimp only) <;> first | assumption | omega | ((try simp (disch := omega) only [w32_of, w64_of, w8_of]) <;> first | assumption | omega | (split <;> omega) | (refine And.intro ?_ ?_ <;> split <;> omega)) | omega) (by (try dsimp only) <;> first | assumption | omega | ((try simp (disch := omega) only [w32_of, w64_of, w8_of]) <;> first | assumption | omega | (split <;> omega) | (refine And.intro ?_ ?_ <;> split <;> omega)) | omega) (fun σ_64 hσ_64 eσ_64 => ?_)
        try simp (disch := omega) only [w32_of, w64_of, w8_of] at eσ_64
        have flσ_64 := FC_sg eσ_64 (by first | decide | (rcases hE with rfl | rfl | rfl <;> decide))
        have frσ_64 : FC [kP_told, kP_triangle, kP_triangleCount, kP_wayFrom, kP_wayTo, kP_ways] [] σ σ_64 := FC_tr frσ_40 flσ_64 (by first | decide | (rcases hE with rfl | rfl | rfl <;> decide)) (by first | decide | (rcases hE with rfl | rfl | rfl <;> decide)) (by simp) (by simp)
        have c76 := ii_kP_triangleCount hσ_64 0
        have c77 := FC_at flσ_64 (c := kP_triangleCount) (by first | decide | (rcases hE with rfl | rfl | rfl <;> decide)) 0
        refine wp_wfI hσ_64 b_kP_triangleCount (by (try dsimp only) <;> first | assumption | omega | ((try simp (disch := omega) only [w32_of, w64_of, w8_of]) <;> first | assumption | omega | (split <;> omega) | (refine And.intro ?_ ?_ <;> split <;> omega)) | omega) (fun σ_66 hσ_66 eσ_66 => ?_)
        try simp (disch := omega) only [w32_of, w64_of, w8_of] at eσ_66
        have flσ_66 := FC_sg eσ_66 (by first | decide | (rcases hE with rfl | rfl | rfl <;> decide))
        have frσ_66 : FC [kP_told, kP_triangle, kP_triangleCount, kP_wayFrom, kP_wayTo, kP_ways] [] σ σ_66 := FC_tr frσ_64 flσ_66 (by first | decide | (rcases hE with rfl | rfl | rfl <;> decide)) (by first | decide | (rcases hE with rfl | rfl | rfl <;> decide)) (by simp) (by simp)
        exact wp_some (x_inl ⟨⟨hσ_66, frσ_66, (by (try dsimp only) <;> first | assumption | omega | ((try simp (disch := omega) only [w32_of, w64_of, w8_of]) <;> first | assumption | omega | (split <;> omega) | (refine And.intro ?_ ?_ <;> split <;> omega)) | omega), (by (try dsimp only) <;> (first | assumption | exact PWs_f flσ_66 (by decide) (PWs_f flσ_64 (by decide) hpw40)))⟩, (by (try dsimp only) <;> first | assumption | omega | ((try simp (disch := omega) only [w32_of, w64_of, w8_of]) <;> first | assumption | omega | (split <;> omega) | (refine And.intro ?_ ?_ <;> split <;> omega)) | omega)⟩)
    · try simp (disch := omega) only [w32_of, w64_of, w8_of, decide_eq_true_eq, decide_eq_false_iff_not, Bool.not_eq_true] at c39
      exact wp_some (x_inr (x_inl ⟨hσ_40, frσ_40, (by (try dsimp only) <;> (exact hpw40))⟩))
  rintro ⟨k_69, σ_70⟩ y78
  try dsimp only at y78 ⊢
  obtain ⟨hσ_70, frσ_70, hpw70⟩ := y78
  exact wp_some ⟨hσ_70, frσ_70, (by (try dsimp only) <;> (first | assumption | exact PWs_f frσ_38 (by decide) w0))⟩
theorem v_firstNeighbour {σ : SG} (hσ : II σ) (w0 : 3 ≤ σ kP_places 0) : wp_ (fP_firstNeighbour σ) (fun zz_ => (1 ≤ zz_ ∧ zz_ < σ kP_places 0)) := by
  unfold fP_firstNeighbour
  have c1 := ii_kP_places hσ 0
  have hpc := ii_kP_places hσ 0
  refine wp_bd (P := fun rr_ => (1 ≤ rr_.1 ∧ rr_.1 < σ kP_places 0)) ?_ ?_
  · refine wp_whl (fun ss_ => (1 ≤ ss_.1 ∧ ss_.1 < σ kP_places 0) ∧ (2 ≤ ss_.2 ∧ ss_.2 ≤ 1024)) (fun ss_ => (1025 - ss_.2).toNat) ⟨(by (try dsimp only) <;> first | assumption | omega | ((try simp (disch := omega) only [w32_of, w64_of, w8_of]) <;> first | assumption | omega | (split <;> omega) | (refine And.intro ?_ ?_ <;> split <;> omega)) | omega), (by (try dsimp only) <;> first | assumption | omega | ((try simp (disch := omega) only [w32_of, w64_of, w8_of]) <;> first | assumption | omega | (split <;> omega) | (refine And.intro ?_ ?_ <;> split <;> omega)) | omega)⟩ ?_
    rintro ⟨best_1, i_2⟩ y4
    try dsimp only at y4 ⊢
    obtain ⟨g2, g3⟩ := y4
    have c6 := w32_rng i_2
    have c7 := w32_rng (σ kP_places 0)
    refine wp_if (fun c5 => ?_) (fun c5 => ?_)
    · try simp (disch := omega) only [w32_of, w64_of, w8_of, decide_eq_true_eq, decide_eq_false_iff_not, Bool.not_eq_true] at c5
      refine wp_bd (P := fun rr_ => (1 ≤ rr_ ∧ rr_ < σ kP_places 0)) ?_ ?_
      · refine wp_bd (s_P_turnAt (σ := σ) (a_0 := 0) (b_0 := best_1) (c_0 := i_2) hσ (by (try dsimp only) <;> first | assumption | omega | ((try simp (disch := omega) only [w32_of, w64_of, w8_of]) <;> first | assumption | omega | (split <;> omega) | (refine And.intro ?_ ?_ <;> split <;> omega)) | omega) (by (try dsimp only) <;> first | assumption | omega | ((try simp (disch := omega) only [w32_of, w64_of, w8_of]) <;> first | assumption | omega | (split <;> omega) | (refine And.intro ?_ ?_ <;> split <;> omega)) | omega) (by (try dsimp only) <;> first | assumption | omega | ((try simp (disch := omega) only [w32_of, w64_of, w8_of]) <;> first | assumption | omega | (split <;> omega) | (refine And.intro ?_ ?_ <;> split <;> omega)) | omega)) ?_
        rintro x_16 - g8
        try simp (disch := omega) only [w32_of, w64_of, w8_of] at g8
        have c10 := w32_rng x_16
        refine wp_if (fun c9 => ?_) (fun c9 => ?_)
        · try simp (disch := omega) only [w32_of, w64_of, w8_of, decide_eq_true_eq, decide_eq_false_iff_not, Bool.not_eq_true] at c9
          exact wp_some (by (try dsimp only) <;> first | assumption | omega | ((try simp (disch := omega) only [w32_of, w64_of, w8_of]) <;> first | assumption | omega | (split <;> omega) | (refine And.intro ?_ ?_ <;> split <;> omega)) | omega)
        · try simp (disch := omega) only [w32_of, w64_of, w8_of, decide_eq_true_eq, decide_eq_false_iff_not, Bool.not_eq_true] at c9
          exact wp_some (by (try dsimp only) <;> first | assumption | omega | ((try simp (disch := omega) only [w32_of, w64_of, w8_of]) <;> first | assumption | omega | (split <;> omega) | (refine And.intro ?_ ?_ <;> split <;> omega)) | omega)
      rintro best_20 _ g11
      exact wp_some (x_inl ⟨⟨(by (try dsimp only) <;> first | assumption | omega | ((try simp (disch := omega) only [w32_of, w64_of, w8_of]) <;> first | assumption | omega | (split <;> omega) | (refine And.intro ?_ ?_ <;> split <;> omega)) | omega), (by (try dsimp only) <;> first | assumption | omega | ((try simp (disch := omega) only [w32_of, w64_of, w8_of]) <;> first | assumption | omega | (split <;> omega) | (refine And.intro ?_ ?_ <;> split <;> omega)) | omega)⟩, (by (try dsimp only) <;> first | assumption | omega | ((try simp (disch := omega) only [w32_of, w64_of, w8_of]) <;> first | assumption | omega | (split <;> omega) | (refine And.intro ?_ ?_ <;> split <;> omega)) | omega)⟩)
    · try simp (disch := omega) only [w32_of, w64_of, w8_of, decide_eq_true_eq, decide_eq_false_iff_not, Bool.not_eq_true] at c5
      exact wp_some (x_inr (by (try dsimp only) <;> first | assumption | omega | ((try simp (disch := omega) only [w32_of, w64_of, w8_of]) <;> first | assumption | omega | (split <;> omega) | (refine And.intro ?_ ?_ <;> split <;> omega)) | omega))
  rintro ⟨best_24, i_25⟩ _ y13
  try dsimp only at y13 ⊢
  have g12 := y13
  exact wp_some (by (try dsimp only) <;> first | assumption | omega | ((try simp (disch := omega) only [w32_of, w64_of, w8_of]) <;> first | assumption | omega | (split <;> omega) | (refine And.intro ?_ ?_ <;> split <;> omega)) | omega)
theorem v_areOnOneLine {σ : SG} (hσ : II σ) : wp_ (fP_areOnOneLine σ) (fun zz_ => ((zz_ = false) → (3 ≤ σ kP_places 0))) := by
  unfold fP_areOnOneLine
  have hpc := ii_kP_places hσ 0
  refine wp_bx (P := fun rr_ => True) ?_ ?_
  · refine wp_whl (fun ss_ => (2 ≤ ss_ ∧ ss_ ≤ 1024)) (fun ss_ => (1025 - ss_).toNat) (by (try dsimp only) <;> first | assumption | omega | ((try simp (disch := omega) only [w32_of, w64_of, w8_of]) <;> first | assumption | omega | (split <;> omega) | (refine And.intro ?_ ?_ <;> split <;> omega)) | omega) ?_
    rintro i_1 g1
    have c3 := w32_rng i_1
    have c4 := ii_kP_places hσ 0
    have c5 := w32_rng (σ kP_places 0)
    refine wp_if (fun c2 => ?_) (fun c2 => ?_)
    · try simp (disch := omega) only [w32_of, w64_of, w8_of, decide_eq_true_eq, decide_eq_false_iff_not, Bool.not_eq_true] at c2
      refine wp_bd (s_P_turnAt (σ := σ) (a_0 := 0) (b_0 := 1) (c_0 := i_1) hσ (by (try dsimp only) <;> first | assumption | omega | ((try simp (disch := omega) only [w32_of, w64_of, w8_of]) <;> first | assumption | omega | (split <;> omega) | (refine And.intro ?_ ?_ <;> split <;> omega)) | omega) (by (try dsimp only) <;> first | assumption | omega | ((try simp (disch := omega) only [w32_of, w64_of, w8_of]) <;> first | assumption | omega | (split <;> omega) | (refine And.intro ?_ ?_ <;> split <;> omega)) | omega) (by (try dsimp only) <;> first | assumption | omega | ((try simp (disch := omega) only [w32_of, w64_of, w8_of]) <;> first | assumption | omega | (split <;> omega) | (refine And.intro ?_ ?_ <;> split <;> omega)) | omega)) ?_
      rintro x_11 - g6
      try simp (disch := omega) only [w32_of, w64_of, w8_of] at g6
      have c8 := w32_rng x_11
      refine wp_if (fun c7 => ?_) (fun c7 => ?_)
      · try simp (disch := omega) only [w32_of, w64_of, w8_of, decide_eq_true_eq, decide_eq_false_iff_not, Bool.not_eq_true] at c7
        exact wp_some (x_inr (x_inr (by intro q9; (try dsimp only) <;> first | assumption | omega | ((try simp (disch := omega) only [w32_of, w64_of, w8_of]) <;> first | assumption | omega | (split <;> omega) | (refine And.intro ?_ ?_ <;> split <;> omega)) | omega)))
      · try simp (disch := omega) only [w32_of, w64_of, w8_of, decide_eq_true_eq, decide_eq_false_iff_not, Bool.not_eq_true] at c7
        exact wp_some (x_inl ⟨(by (try dsimp only) <;> first | assumption | omega | ((try simp (disch := omega) only [w32_of, w64_of, w8_of]) <;> first | assumption | omega | (split <;> omega) | (refine And.intro ?_ ?_ <;> split <;> omega)) | omega), (by (try dsimp only) <;> first | assumption | omega | ((try simp (disch := omega) only [w32_of, w64_of, w8_of]) <;> first | assumption | omega | (split <;> omega) | (refine And.intro ?_ ?_ <;> split <;> omega)) | omega)⟩)
    · try simp (disch := omega) only [w32_of, w64_of, w8_of, decide_eq_true_eq, decide_eq_false_iff_not, Bool.not_eq_true] at c2
      exact wp_some (x_inr (x_inl trivial))
  rintro i_15 -
  have c9 := ii_kP_places hσ 0
  exact wp_some (fun q => (by cases q))
theorem s_P_triangulate {σ : SG} (hσ : II σ) : wp_ (fP_triangulate σ) (fun zz_ => II zz_.2 ∧ FC [kP_round, kP_roundSize, kP_told, kP_triangle, kP_triangleCount, kP_wayFrom, kP_wayTo, kP_ways] [] σ zz_.2) := by
  unfold fP_triangulate
  have hpc := ii_kP_places hσ 0
  refine wp_wfI hσ b_kP_triangleCount (by (try dsimp only) <;> first | assumption | omega | ((try simp (disch := omega) only [w32_of, w64_of, w8_of]) <;> first | assumption | omega | (split <;> omega) | (refine And.intro ?_ ?_ <;> split <;> omega)) | omega) (fun σ_1 hσ_1 eσ_1 => ?_)
  try simp (disch := omega) only [w32_of, w64_of, w8_of] at eσ_1
  have flσ_1 := FC_sg eσ_1 (by first | decide | (rcases hE with rfl | rfl | rfl <;> decide))
  have frσ_1 : FC [kP_round, kP_roundSize, kP_told, kP_triangle, kP_triangleCount, kP_wayFrom, kP_wayTo, kP_ways] [] σ σ_1 := FC_le flσ_1 (by first | decide | (rcases hE with rfl | rfl | rfl <;> decide)) (by simp)
  refine wp_bd (v_areOnOneLine (σ := σ_1) hσ_1) ?_
  rintro x_3 - g1
  have c2 := ii_kP_places hσ_1 0
  have c3 := FC_at flσ_1 (c := kP_places) (by first | decide | (rcases hE with rfl | rfl | rfl <;> decide)) 0
  have c4 := ii_kP_places hσ 0
  try simp (disch := omega) only [w32_of, w64_of, w8_of] at g1
  refine wp_if (fun c5 => ?_) (fun c5 => ?_)
  · try simp (disch := omega) only [w32_of, w64_of, w8_of, decide_eq_true_eq, decide_eq_false_iff_not, Bool.not_eq_true] at c5
    exact wp_some ⟨hσ_1, frσ_1⟩
  · have k7 := g1 (Bool.eq_false_iff.mpr c5)
    try simp (disch := omega) only [w32_of, w64_of, w8_of] at k7
    try simp (disch := omega) only [w32_of, w64_of, w8_of, decide_eq_true_eq, decide_eq_false_iff_not, Bool.not_eq_true] at c5
    have c9 := w32_rng (σ_1 kP_places 0)
    refine wp_if (fun c8 => ?_) (fun c8 => ?_)
    · try simp (disch := omega) only [w32_of, w64_of, w8_of, decide_eq_true_eq, decide_eq_false_iff_not, Bool.not_eq_true] at c8
      exact wp_some ⟨hσ_1, frσ_1⟩
    · try simp (disch := omega) only [w32_of, w64_of, w8_of, decide_eq_true_eq, decide_eq_false_iff_not, Bool.not_eq_true] at c8
      have hsq : 0 ≤ σ_1 kP_places 0 * σ_1 kP_places 0 ∧ σ_1 kP_places 0 * σ_1 kP_places 0 ≤ 264196 := by
        have a := Int.mul_nonneg (show 0 ≤ σ_1 kP_places 0 by omega) (show 0 ≤ σ_1 kP_places 0 by omega)
        have b := ml_b (M := 514) (N := 514) (a := σ_1 kP_places 0) (b := σ_1 kP_places 0) (by decide) (by decide) (by omega) (by omega)
        omega
      have hdv := q_idv64 hsq.1 hsq.2
      have c10 := q_idv_bd ((σ_1 kP_places 0) * (σ_1 kP_places 0)) 64 (by (try dsimp only) <;> first | assumption | omega | ((try simp (disch := omega) only [w32_of, w64_of, w8_of]) <;> first | assumption | omega | (split <;> omega) | (refine And.intro ?_ ?_ <;> split <;> omega)) | omega) (by (try dsimp only) <;> first | assumption | omega | ((try simp (disch := omega) only [w32_of, w64_of, w8_of]) <;> first | assumption | omega | (split <;> omega) | (refine And.intro ?_ ?_ <;> split <;> omega)) | omega)
      try simp (disch := omega) only [w32_of, w64_of, w8_of] at c10
      refine wp_bd (v_fillJR (σ := σ_1) (a_0 := 245) (a_n := 4129) (fromIndex_0 := 0) (toIndex_0 := ((q_idv ((σ_1 kP_places 0) * (σ_1 kP_places 0)) 64) + 1)) (val_0 := 0) hσ_1 (by decide) (by rw [show (245 * 256 : Nat) = kP_told from rfl, b_kP_told]; trivial) (by decide) (by (try dsimp only) <;> first | assumption | omega | ((try simp (disch := omega) only [w32_of, w64_of, w8_of]) <;> first | assumption | omega | (split <;> omega) | (refine And.intro ?_ ?_ <;> split <;> omega)) | omega)) ?_
      rintro σ_7 - ⟨hσ_7, flσ_7, g11⟩
      have frσ_7 : FC [kP_round, kP_roundSize, kP_told, kP_triangle, kP_triangleCount, kP_wayFrom, kP_wayTo, kP_ways] [] σ σ_7 := FC_tr frσ_1 flσ_7 (by first | decide | (rcases hE with rfl | rfl | rfl <;> decide)) (by first | decide | (rcases hE with rfl | rfl | rfl <;> decide)) (by simp) (by simp)
      try simp (disch := omega) only [w32_of, w64_of, w8_of] at g11
      refine wp_wfI hσ_7 b_kP_ways (by (try dsimp only) <;> first | assumption | omega | ((try simp (disch := omega) only [w32_of, w64_of, w8_of]) <;> first | assumption | omega | (split <;> omega) | (refine And.intro ?_ ?_ <;> split <;> omega)) | omega) (fun σ_8 hσ_8 eσ_8 => ?_)
      try simp (disch := omega) only [w32_of, w64_of, w8_of] at eσ_8
      have flσ_8 := FC_sg eσ_8 (by first | decide | (rcases hE with rfl | rfl | rfl <;> decide))
      have frσ_8 : FC [kP_round, kP_roundSize, kP_told, kP_triangle, kP_triangleCount, kP_wayFrom, kP_wayTo, kP_ways] [] σ σ_8 := FC_tr frσ_7 flσ_8 (by first | decide | (rcases hE with rfl | rfl | rfl <;> decide)) (by first | decide | (rcases hE with rfl | rfl | rfl <;> decide)) (by simp) (by simp)
      have c12 := ii_kP_places hσ_8 0
      have c13 := FC_at flσ_8 (c := kP_places) (by first | decide | (rcases hE with rfl | rfl | rfl <;> decide)) 0
      have c14 := ii_kP_places hσ_7 0
      have c15 := FC_at flσ_7 (c := kP_places) (by first | decide | (rcases hE with rfl | rfl | rfl <;> decide)) 0
      refine wp_bd (v_firstNeighbour (σ := σ_8) hσ_8 (by (try dsimp only) <;> first | assumption | omega | ((try simp (disch := omega) only [w32_of, w64_of, w8_of]) <;> first | assumption | omega | (split <;> omega) | (refine And.intro ?_ ?_ <;> split <;> omega)) | omega)) ?_
      rintro x_10 - g16
      try simp (disch := omega) only [w32_of, w64_of, w8_of] at g16
      have hp8 : PWs σ_8 := PWs_0 (by rw [eσ_8, sg_at])
      refine wp_bd (s_P_pushWay (σ := σ_8) (from_0 := 0) (to_0 := x_10) hσ_8 hp8 (by (try dsimp only) <;> first | assumption | omega | ((try simp (disch := omega) only [w32_of, w64_of, w8_of]) <;> first | assumption | omega | (split <;> omega) | (refine And.intro ?_ ?_ <;> split <;> omega)) | omega) (by (try dsimp only) <;> first | assumption | omega | ((try simp (disch := omega) only [w32_of, w64_of, w8_of]) <;> first | assumption | omega | (split <;> omega) | (refine And.intro ?_ ?_ <;> split <;> omega)) | omega) (by (try dsimp only) <;> first | assumption | omega | ((try simp (disch := omega) only [w32_of, w64_of, w8_of]) <;> first | assumption | omega | (split <;> omega) | (refine And.intro ?_ ?_ <;> split <;> omega)) | omega)) ?_
      rintro σ_12 - ⟨hσ_12, flσ_12, g17⟩
      have frσ_12 : FC [kP_round, kP_roundSize, kP_told, kP_triangle, kP_triangleCount, kP_wayFrom, kP_wayTo, kP_ways] [] σ σ_12 := FC_tr frσ_8 flσ_12 (by first | decide | (rcases hE with rfl | rfl | rfl <;> decide)) (by first | decide | (rcases hE with rfl | rfl | rfl <;> decide)) (by simp) (by simp)
      try simp (disch := omega) only [w32_of, w64_of, w8_of] at g17
      refine wp_bx (P := fun rr_ => II rr_.2 ∧ FC [kP_round, kP_roundSize, kP_told, kP_triangle, kP_triangleCount, kP_wayFrom, kP_wayTo, kP_ways] [] σ rr_.2 ∧ (True)) ?_ ?_
      · refine wp_whl (fun ss_ => II ss_.2 ∧ FC [kP_round, kP_roundSize, kP_told, kP_triangle, kP_triangleCount, kP_wayFrom, kP_wayTo, kP_ways] [] σ ss_.2 ∧ (0 ≤ ss_.1 ∧ ss_.1 ≤ 264196) ∧ (PWs ss_.2)) (fun ss_ => (264197 - ss_.1).toNat) ⟨hσ_12, frσ_12, (by (try dsimp only) <;> first | assumption | omega | ((try simp (disch := omega) only [w32_of, w64_of, w8_of]) <;> first | assumption | omega | (split <;> omega) | (refine And.intro ?_ ?_ <;> split <;> omega)) | omega), (by (try dsimp only) <;> (first | assumption | exact PWs_f flσ_48 (by decide) hpo))⟩ ?_
        rintro ⟨step_13, σ_14⟩ y19
        try dsimp only at y19 ⊢
        obtain ⟨hσ_14, frσ_14, g18, hp14⟩ := y19
        have c21 := ii_kP_ways hσ_14 0
        have c22 := w32_rng (σ_14 kP_ways 0)
        have c23 := w32_rng step_13
        refine wp_if (fun c20 => ?_) (fun c20 => ?_)
        · try simp (disch := omega) only [w32_of, w64_of, w8_of, decide_eq_true_eq, decide_eq_false_iff_not, Bool.not_eq_true] at c20
          refine wp_wfI hσ_14 b_kP_ways (by (try dsimp only) <;> first | assumption | omega | ((try simp (disch := omega) only [w32_of, w64_of, w8_of]) <;> first | assumption | omega | (split <;> omega) | (refine And.intro ?_ ?_ <;> split <;> omega)) | omega) (fun σ_22 hσ_22 eσ_22 => ?_)
          try simp (disch := omega) only [w32_of, w64_of, w8_of] at eσ_22
          have flσ_22 := FC_sg eσ_22 (by first | decide | (rcases hE with rfl | rfl | rfl <;> decide))
          have frσ_22 : FC [kP_round, kP_roundSize, kP_told, kP_triangle, kP_triangleCount, kP_wayFrom, kP_wayTo, kP_ways] [] σ σ_22 := FC_tr frσ_14 flσ_22 (by first | decide | (rcases hE with rfl | rfl | rfl <;> decide)) (by first | decide | (rcases hE with rfl | rfl | rfl <;> decide)) (by simp) (by simp)
          have hpo := PWs_pop eσ_22 hp14
          have c24 := ii_kP_ways hσ_22 0
          have c25 := sg_val eσ_22
          have c26 := w32_rng (σ_22 kP_ways 0)
          refine wp_rdI (by (try dsimp only) <;> first | assumption | omega | ((try simp (disch := omega) only [w32_of, w64_of, w8_of]) <;> first | assumption | omega | (split <;> omega) | (refine And.intro ?_ ?_ <;> split <;> omega)) | omega) (by (try dsimp only) <;> first | assumption | omega | ((try simp (disch := omega) only [w32_of, w64_of, w8_of]) <;> first | assumption | omega | (split <;> omega) | (refine And.intro ?_ ?_ <;> split <;> omega)) | omega) (fun x_23 e_x_23 => ?_)
          have b_x_23 : 0 ≤ x_23 ∧ x_23 ≤ 1023 := by rw [e_x_23]; exact ii_kP_wayFrom hσ_22 _
          try simp (disch := omega) only [w32_of, w64_of, w8_of] at e_x_23
          have c27 := ii_kP_wayFrom hσ_22 (σ_22 kP_ways 0)
          have c28 := FC_at flσ_22 (c := kP_wayFrom) (by first | decide | (rcases hE with rfl | rfl | rfl <;> decide)) (σ_22 kP_ways 0)
          have c29 := ii_kP_wayFrom hσ_14 (σ_22 kP_ways 0)
          refine wp_rdI (by (try dsimp only) <;> first | assumption | omega | ((try simp (disch := omega) only [w32_of, w64_of, w8_of]) <;> first | assumption | omega | (split <;> omega) | (refine And.intro ?_ ?_ <;> split <;> omega)) | omega) (by (try dsimp only) <;> first | assumption | omega | ((try simp (disch := omega) only [w32_of, w64_of, w8_of]) <;> first | assumption | omega | (split <;> omega) | (refine And.intro ?_ ?_ <;> split <;> omega)) | omega) (fun x_25 e_x_25 => ?_)
          have b_x_25 : 0 ≤ x_25 ∧ x_25 ≤ 1023 := by rw [e_x_25]; exact ii_kP_wayTo hσ_22 _
          try simp (disch := omega) only [w32_of, w64_of, w8_of] at e_x_25
          have c30 := ii_kP_wayTo hσ_22 (σ_22 kP_ways 0)
          have c31 := FC_at flσ_22 (c := kP_wayTo) (by first | decide | (rcases hE with rfl | rfl | rfl <;> decide)) (σ_22 kP_ways 0)
          have c32 := ii_kP_wayTo hσ_14 (σ_22 kP_ways 0)
          have hwy := hp14 (σ_22 kP_ways 0) (by omega) (by omega)
          have ex23 : x_23 = σ_14 kP_wayFrom (σ_22 kP_ways 0) := by rw [e_x_23, eσ_22, sg_nc (by decide)]
          have ex25 : x_25 = σ_14 kP_wayTo (σ_22 kP_ways 0) := by rw [e_x_25, eσ_22, sg_nc (by decide)]
          rw [← ex23, ← ex25] at hwy
          have c33 := ii_kP_places hσ_22 0
          have c34 := FC_at flσ_22 (c := kP_places) (by first | decide | (rcases hE with rfl | rfl | rfl <;> decide)) 0
          have c35 := ii_kP_places hσ_14 0
          have c36 := FC_at frσ_14 (c := kP_places) (by first | decide | (rcases hE with rfl | rfl | rfl <;> decide)) 0
          refine wp_bd (s_P_isTold (σ := σ_22) (from_0 := x_23) (to_0 := x_25) hσ_22 (by (try dsimp only) <;> first | assumption | omega | ((try simp (disch := omega) only [w32_of, w64_of, w8_of]) <;> first | assumption | omega | (split <;> omega) | (refine And.intro ?_ ?_ <;> split <;> omega)) | omega) (by (try dsimp only) <;> first | assumption | omega | ((try simp (disch := omega) only [w32_of, w64_of, w8_of]) <;> first | assumption | omega | (split <;> omega) | (refine And.intro ?_ ?_ <;> split <;> omega)) | omega) (by (try dsimp only) <;> first | assumption | omega | ((try simp (disch := omega) only [w32_of, w64_of, w8_of]) <;> first | assumption | omega | (split <;> omega) | (refine And.intro ?_ ?_ <;> split <;> omega)) | omega)) ?_
          rintro x_44 - -
          refine wp_if (fun c38 => ?_) (fun c38 => ?_)
          · try simp (disch := omega) only [w32_of, w64_of, w8_of, decide_eq_true_eq, decide_eq_false_iff_not, Bool.not_eq_true] at c38
            exact wp_some (x_inl ⟨⟨hσ_22, frσ_22, (by (try dsimp only) <;> first | assumption | omega | ((try simp (disch := omega) only [w32_of, w64_of, w8_of]) <;> first | assumption | omega | (split <;> omega) | (refine And.intro ?_ ?_ <;> split <;> omega)) | omega), (by (try dsimp only) <;> (first | assumption | exact PWs_f flσ_48 (by decide) hpo))⟩, (by (try dsimp only) <;> first | assumption | omega | ((try simp (disch := omega) only [w32_of, w64_of, w8_of]) <;> first | assumption | omega | (split <;> omega) | (refine And.intro ?_ ?_ <;> split <;> omega)) | omega)⟩)
          · try simp (disch := omega) only [w32_of, w64_of, w8_of, decide_eq_true_eq, decide_eq_false_iff_not, Bool.not_eq_true] at c38
            refine wp_bd (s_P_findRound (σ := σ_22) (from_0 := x_23) (to_0 := x_25) hσ_22 (by (try dsimp only) <;> first | assumption | omega | ((try simp (disch := omega) only [w32_of, w64_of, w8_of]) <;> first | assumption | omega | (split <;> omega) | (refine And.intro ?_ ?_ <;> split <;> omega)) | omega) (by (try dsimp only) <;> first | assumption | omega | ((try simp (disch := omega) only [w32_of, w64_of, w8_of]) <;> first | assumption | omega | (split <;> omega) | (refine And.intro ?_ ?_ <;> split <;> omega)) | omega)) ?_
            rintro ⟨x_49, σ_48⟩ - y41
            try dsimp only at y41 ⊢
            obtain ⟨hσ_48, flσ_48, g39, g40⟩ := y41
            have frσ_48 : FC [kP_round, kP_roundSize, kP_told, kP_triangle, kP_triangleCount, kP_wayFrom, kP_wayTo, kP_ways] [] σ σ_48 := FC_tr frσ_22 flσ_48 (by first | decide | (rcases hE with rfl | rfl | rfl <;> decide)) (by first | decide | (rcases hE with rfl | rfl | rfl <;> decide)) (by simp) (by simp)
            try simp (disch := omega) only [w32_of, w64_of, w8_of] at g39
            have c42 := ii_kP_roundSize hσ_48 0
            try simp (disch := omega) only [w32_of, w64_of, w8_of] at g40
            refine wp_if (fun c43 => ?_) (fun c43 => ?_)
            · try simp (disch := omega) only [w32_of, w64_of, w8_of, decide_eq_true_eq, decide_eq_false_iff_not, Bool.not_eq_true] at c43
              have c44 := ii_kP_places hσ_48 0
              have c45 := FC_at flσ_48 (c := kP_places) (by first | decide | (rcases hE with rfl | rfl | rfl <;> decide)) 0
              refine wp_bd (s_P_tellRound (σ := σ_48) hσ_48 (PWs_f flσ_48 (by decide) hpo) g39 (by (try dsimp only) <;> first | assumption | omega | ((try simp (disch := omega) only [w32_of, w64_of, w8_of]) <;> first | assumption | omega | (split <;> omega) | (refine And.intro ?_ ?_ <;> split <;> omega)) | omega) (by (try dsimp only) <;> first | assumption | omega | ((try simp (disch := omega) only [w32_of, w64_of, w8_of]) <;> first | assumption | omega | (split <;> omega) | (refine And.intro ?_ ?_ <;> split <;> omega)) | omega)) ?_
              rintro ⟨x_53, σ_52⟩ - y47
              try dsimp only at y47 ⊢
              obtain ⟨hσ_52, flσ_52, g46⟩ := y47
              have frσ_52 : FC [kP_round, kP_roundSize, kP_told, kP_triangle, kP_triangleCount, kP_wayFrom, kP_wayTo, kP_ways] [] σ σ_52 := FC_tr frσ_48 flσ_52 (by first | decide | (rcases hE with rfl | rfl | rfl <;> decide)) (by first | decide | (rcases hE with rfl | rfl | rfl <;> decide)) (by simp) (by simp)
              try simp (disch := omega) only [w32_of, w64_of, w8_of] at g46
              refine wp_if (fun c48 => ?_) (fun c48 => ?_)
              · try simp (disch := omega) only [w32_of, w64_of, w8_of, decide_eq_true_eq, decide_eq_false_iff_not, Bool.not_eq_true] at c48
                exact wp_some (x_inl ⟨⟨hσ_52, frσ_52, (by (try dsimp only) <;> first | assumption | omega | ((try simp (disch := omega) only [w32_of, w64_of, w8_of]) <;> first | assumption | omega | (split <;> omega) | (refine And.intro ?_ ?_ <;> split <;> omega)) | omega), (by (try dsimp only) <;> (first | assumption | exact PWs_f flσ_48 (by decide) hpo))⟩, (by (try dsimp only) <;> first | assumption | omega | ((try simp (disch := omega) only [w32_of, w64_of, w8_of]) <;> first | assumption | omega | (split <;> omega) | (refine And.intro ?_ ?_ <;> split <;> omega)) | omega)⟩)
              · try simp (disch := omega) only [w32_of, w64_of, w8_of, decide_eq_true_eq, decide_eq_false_iff_not, Bool.not_eq_true] at c48
                exact wp_some (x_inr (x_inr ⟨hσ_52, frσ_52⟩))
            · try simp (disch := omega) only [w32_of, w64_of, w8_of, decide_eq_true_eq, decide_eq_false_iff_not, Bool.not_eq_true] at c43
              exact wp_some (x_inl ⟨⟨hσ_48, frσ_48, (by (try dsimp only) <;> first | assumption | omega | ((try simp (disch := omega) only [w32_of, w64_of, w8_of]) <;> first | assumption | omega | (split <;> omega) | (refine And.intro ?_ ?_ <;> split <;> omega)) | omega), (by (try dsimp only) <;> (first | assumption | exact PWs_f flσ_48 (by decide) hpo))⟩, (by (try dsimp only) <;> first | assumption | omega | ((try simp (disch := omega) only [w32_of, w64_of, w8_of]) <;> first | assumption | omega | (split <;> omega) | (refine And.intro ?_ ?_ <;> split <;> omega)) | omega)⟩)
        · try simp (disch := omega) only [w32_of, w64_of, w8_of, decide_eq_true_eq, decide_eq_false_iff_not, Bool.not_eq_true] at c20
          exact wp_some (x_inr (x_inl ⟨hσ_14, frσ_14, (by (try dsimp only) <;> first | assumption | omega | ((try simp (disch := omega) only [w32_of, w64_of, w8_of]) <;> first | assumption | omega | (split <;> omega) | (refine And.intro ?_ ?_ <;> split <;> omega)) | omega)⟩))
      rintro ⟨step_65, σ_66⟩ y50
      try dsimp only at y50 ⊢
      obtain ⟨hσ_66, frσ_66, g49⟩ := y50
      have c51 := ii_kP_triangleCount hσ_66 0
      refine wp_bd (v_sortRow (σ := σ_66) (row_0 := 249) (row_n := 512) (size_0 := (σ_66 kP_triangleCount 0)) hσ_66 (by decide) (by decide) (by (try dsimp only) <;> first | assumption | omega | ((try simp (disch := omega) only [w32_of, w64_of, w8_of]) <;> first | assumption | omega | (split <;> omega) | (refine And.intro ?_ ?_ <;> split <;> omega)) | omega)) ?_
      rintro σ_68 - ⟨hσ_68, flσ_68, g52⟩
      have frσ_68 : FC [kP_round, kP_roundSize, kP_told, kP_triangle, kP_triangleCount, kP_wayFrom, kP_wayTo, kP_ways] [] σ σ_68 := FC_tr frσ_66 flσ_68 (by first | decide | (rcases hE with rfl | rfl | rfl <;> decide)) (by first | decide | (rcases hE with rfl | rfl | rfl <;> decide)) (by simp) (by simp)
      try simp (disch := omega) only [w32_of, w64_of, w8_of] at g52
      exact wp_some ⟨hσ_68, frσ_68⟩
theorem s_P_squareTo {σ : SG} {shape_0 : Nat} {i_0 : Int} {j_0 : Int} (hσ : II σ) (hs_shape_0 : isS shape_0) (w0 : 0 ≤ i_0 ∧ i_0 ≤ 2047) (w1 : 0 ≤ j_0 ∧ j_0 ≤ 2047) : wp_ (fP_squareTo σ shape_0 i_0 j_0) (fun zz_ => True) := by
  unfold fP_squareTo
  have c1 := w32_rng i_0
  refine wp_rdI (by (try dsimp only) <;> first | assumption | omega | ((try simp (disch := omega) only [w32_of, w64_of, w8_of]) <;> first | assumption | omega | (split <;> omega) | (refine And.intro ?_ ?_ <;> split <;> omega)) | omega) (by (try dsimp only) <;> first | assumption | omega | ((try simp (disch := omega) only [w32_of, w64_of, w8_of]) <;> first | assumption | omega | (split <;> omega) | (refine And.intro ?_ ?_ <;> split <;> omega)) | omega) (fun x_1 e_x_1 => ?_)
  have b_x_1 : (-1000000000) ≤ x_1 ∧ x_1 ≤ 1000000000 := by rw [e_x_1]; exact iiA_x (s := shape_0) hσ (by first | assumption | decide | omega) _
  try simp (disch := omega) only [w32_of, w64_of, w8_of] at e_x_1
  have c2 := iiA_x (s := shape_0) hσ (by first | assumption | decide | omega) i_0
  have c3 := w32_rng j_0
  refine wp_rdI (by (try dsimp only) <;> first | assumption | omega | ((try simp (disch := omega) only [w32_of, w64_of, w8_of]) <;> first | assumption | omega | (split <;> omega) | (refine And.intro ?_ ?_ <;> split <;> omega)) | omega) (by (try dsimp only) <;> first | assumption | omega | ((try simp (disch := omega) only [w32_of, w64_of, w8_of]) <;> first | assumption | omega | (split <;> omega) | (refine And.intro ?_ ?_ <;> split <;> omega)) | omega) (fun x_3 e_x_3 => ?_)
  have b_x_3 : (-1000000000) ≤ x_3 ∧ x_3 ≤ 1000000000 := by rw [e_x_3]; exact iiA_x (s := shape_0) hσ (by first | assumption | decide | omega) _
  try simp (disch := omega) only [w32_of, w64_of, w8_of] at e_x_3
  have c4 := iiA_x (s := shape_0) hσ (by first | assumption | decide | omega) j_0
  refine wp_rdI (by (try dsimp only) <;> first | assumption | omega | ((try simp (disch := omega) only [w32_of, w64_of, w8_of]) <;> first | assumption | omega | (split <;> omega) | (refine And.intro ?_ ?_ <;> split <;> omega)) | omega) (by (try dsimp only) <;> first | assumption | omega | ((try simp (disch := omega) only [w32_of, w64_of, w8_of]) <;> first | assumption | omega | (split <;> omega) | (refine And.intro ?_ ?_ <;> split <;> omega)) | omega) (fun x_5 e_x_5 => ?_)
  have b_x_5 : (-1000000000) ≤ x_5 ∧ x_5 ≤ 1000000000 := by rw [e_x_5]; exact iiA_y (s := shape_0) hσ (by first | assumption | decide | omega) _
  try simp (disch := omega) only [w32_of, w64_of, w8_of] at e_x_5
  have c5 := iiA_y (s := shape_0) hσ (by first | assumption | decide | omega) i_0
  refine wp_rdI (by (try dsimp only) <;> first | assumption | omega | ((try simp (disch := omega) only [w32_of, w64_of, w8_of]) <;> first | assumption | omega | (split <;> omega) | (refine And.intro ?_ ?_ <;> split <;> omega)) | omega) (by (try dsimp only) <;> first | assumption | omega | ((try simp (disch := omega) only [w32_of, w64_of, w8_of]) <;> first | assumption | omega | (split <;> omega) | (refine And.intro ?_ ?_ <;> split <;> omega)) | omega) (fun x_7 e_x_7 => ?_)
  have b_x_7 : (-1000000000) ≤ x_7 ∧ x_7 ≤ 1000000000 := by rw [e_x_7]; exact iiA_y (s := shape_0) hσ (by first | assumption | decide | omega) _
  try simp (disch := omega) only [w32_of, w64_of, w8_of] at e_x_7
  have c6 := iiA_y (s := shape_0) hσ (by first | assumption | decide | omega) j_0
  exact wp_some trivial
theorem s_P_farthest {σ : SG} {shape_0 : Nat} {a_0 : Int} {b_0 : Int} {distance_0 : Int} (hσ : II σ) (hs_shape_0 : isS shape_0) (w0 : 0 ≤ a_0 ∧ a_0 ≤ 2047) (w1 : 0 ≤ b_0 ∧ b_0 ≤ 2047) : wp_ (fP_farthest σ shape_0 a_0 b_0 distance_0) (fun zz_ => (-1 ≤ zz_ ∧ zz_ ≤ 2047)) := by
  unfold fP_farthest
  have c1 := w32_rng b_0
  refine wp_rdI (by (try dsimp only) <;> first | assumption | omega | ((try simp (disch := omega) only [w32_of, w64_of, w8_of]) <;> first | assumption | omega | (split <;> omega) | (refine And.intro ?_ ?_ <;> split <;> omega)) | omega) (by (try dsimp only) <;> first | assumption | omega | ((try simp (disch := omega) only [w32_of, w64_of, w8_of]) <;> first | assumption | omega | (split <;> omega) | (refine And.intro ?_ ?_ <;> split <;> omega)) | omega) (fun x_1 e_x_1 => ?_)
  have b_x_1 : (-1000000000) ≤ x_1 ∧ x_1 ≤ 1000000000 := by rw [e_x_1]; exact iiA_x (s := shape_0) hσ (by first | assumption | decide | omega) _
  try simp (disch := omega) only [w32_of, w64_of, w8_of] at e_x_1
  have c2 := iiA_x (s := shape_0) hσ (by first | assumption | decide | omega) b_0
  have c3 := w32_rng a_0
  refine wp_rdI (by (try dsimp only) <;> first | assumption | omega | ((try simp (disch := omega) only [w32_of, w64_of, w8_of]) <;> first | assumption | omega | (split <;> omega) | (refine And.intro ?_ ?_ <;> split <;> omega)) | omega) (by (try dsimp only) <;> first | assumption | omega | ((try simp (disch := omega) only [w32_of, w64_of, w8_of]) <;> first | assumption | omega | (split <;> omega) | (refine And.intro ?_ ?_ <;> split <;> omega)) | omega) (fun x_3 e_x_3 => ?_)
  have b_x_3 : (-1000000000) ≤ x_3 ∧ x_3 ≤ 1000000000 := by rw [e_x_3]; exact iiA_x (s := shape_0) hσ (by first | assumption | decide | omega) _
  try simp (disch := omega) only [w32_of, w64_of, w8_of] at e_x_3
  have c4 := iiA_x (s := shape_0) hσ (by first | assumption | decide | omega) a_0
  refine wp_rdI (by (try dsimp only) <;> first | assumption | omega | ((try simp (disch := omega) only [w32_of, w64_of, w8_of]) <;> first | assumption | omega | (split <;> omega) | (refine And.intro ?_ ?_ <;> split <;> omega)) | omega) (by (try dsimp only) <;> first | assumption | omega | ((try simp (disch := omega) only [w32_of, w64_of, w8_of]) <;> first | assumption | omega | (split <;> omega) | (refine And.intro ?_ ?_ <;> split <;> omega)) | omega) (fun x_5 e_x_5 => ?_)
  have b_x_5 : (-1000000000) ≤ x_5 ∧ x_5 ≤ 1000000000 := by rw [e_x_5]; exact iiA_y (s := shape_0) hσ (by first | assumption | decide | omega) _
  try simp (disch := omega) only [w32_of, w64_of, w8_of] at e_x_5
  have c5 := iiA_y (s := shape_0) hσ (by first | assumption | decide | omega) b_0
  refine wp_rdI (by (try dsimp only) <;> first | assumption | omega | ((try simp (disch := omega) only [w32_of, w64_of, w8_of]) <;> first | assumption | omega | (split <;> omega) | (refine And.intro ?_ ?_ <;> split <;> omega)) | omega) (by (try dsimp only) <;> first | assumption | omega | ((try simp (disch := omega) only [w32_of, w64_of, w8_of]) <;> first | assumption | omega | (split <;> omega) | (refine And.intro ?_ ?_ <;> split <;> omega)) | omega) (fun x_7 e_x_7 => ?_)
  have b_x_7 : (-1000000000) ≤ x_7 ∧ x_7 ≤ 1000000000 := by rw [e_x_7]; exact iiA_y (s := shape_0) hσ (by first | assumption | decide | omega) _
  try simp (disch := omega) only [w32_of, w64_of, w8_of] at e_x_7
  have c6 := iiA_y (s := shape_0) hσ (by first | assumption | decide | omega) a_0
  have c7 := w32_rng x_1
  have c8 := w32_rng x_3
  have c9 := w32_rng x_5
  have c10 := w32_rng x_7
  refine wp_lt (fun x_9 e_x_9 => ?_)
  try simp (disch := omega) only [w32_of, w64_of, w8_of] at e_x_9
  refine wp_bd (P := fun rr_ => (-1 ≤ rr_.1 ∧ rr_.1 ≤ 2047)) ?_ ?_
  · refine wp_whl (fun ss_ => (-1 ≤ ss_.1 ∧ ss_.1 ≤ 2047) ∧ (0 ≤ ss_.2.2.2 ∧ ss_.2.2.2 ≤ 2048)) (fun ss_ => (2049 - ss_.2.2.2).toNat) ⟨(by (try dsimp only) <;> first | assumption | omega | ((try simp (disch := omega) only [w32_of, w64_of, w8_of]) <;> first | assumption | omega | (split <;> omega) | (refine And.intro ?_ ?_ <;> split <;> omega)) | omega), (by (try dsimp only) <;> first | assumption | omega | ((try simp (disch := omega) only [w32_of, w64_of, w8_of]) <;> first | assumption | omega | (split <;> omega) | (refine And.intro ?_ ?_ <;> split <;> omega)) | omega)⟩ ?_
    rintro ⟨best_10, beside_11, size_12, i_13⟩ y13
    try dsimp only at y13 ⊢
    obtain ⟨g11, g12⟩ := y13
    have c15 := w32_rng i_13
    refine wp_if (fun c14 => ?_) (fun c14 => ?_)
    · try simp (disch := omega) only [w32_of, w64_of, w8_of, decide_eq_true_eq, decide_eq_false_iff_not, Bool.not_eq_true] at c14
      refine wp_rdI (by (try dsimp only) <;> first | assumption | omega | ((try simp (disch := omega) only [w32_of, w64_of, w8_of]) <;> first | assumption | omega | (split <;> omega) | (refine And.intro ?_ ?_ <;> split <;> omega)) | omega) (by (try dsimp only) <;> first | assumption | omega | ((try simp (disch := omega) only [w32_of, w64_of, w8_of]) <;> first | assumption | omega | (split <;> omega) | (refine And.intro ?_ ?_ <;> split <;> omega)) | omega) (fun x_22 e_x_22 => ?_)
      have b_x_22 : (-1000000000) ≤ x_22 ∧ x_22 ≤ 1000000000 := by rw [e_x_22]; exact iiA_x (s := shape_0) hσ (by first | assumption | decide | omega) _
      try simp (disch := omega) only [w32_of, w64_of, w8_of] at e_x_22
      have c16 := iiA_x (s := shape_0) hσ (by first | assumption | decide | omega) i_13
      refine wp_rdI (by (try dsimp only) <;> first | assumption | omega | ((try simp (disch := omega) only [w32_of, w64_of, w8_of]) <;> first | assumption | omega | (split <;> omega) | (refine And.intro ?_ ?_ <;> split <;> omega)) | omega) (by (try dsimp only) <;> first | assumption | omega | ((try simp (disch := omega) only [w32_of, w64_of, w8_of]) <;> first | assumption | omega | (split <;> omega) | (refine And.intro ?_ ?_ <;> split <;> omega)) | omega) (fun x_24 e_x_24 => ?_)
      have b_x_24 : (-1000000000) ≤ x_24 ∧ x_24 ≤ 1000000000 := by rw [e_x_24]; exact iiA_x (s := shape_0) hσ (by first | assumption | decide | omega) _
      try simp (disch := omega) only [w32_of, w64_of, w8_of] at e_x_24
      refine wp_rdI (by (try dsimp only) <;> first | assumption | omega | ((try simp (disch := omega) only [w32_of, w64_of, w8_of]) <;> first | assumption | omega | (split <;> omega) | (refine And.intro ?_ ?_ <;> split <;> omega)) | omega) (by (try dsimp only) <;> first | assumption | omega | ((try simp (disch := omega) only [w32_of, w64_of, w8_of]) <;> first | assumption | omega | (split <;> omega) | (refine And.intro ?_ ?_ <;> split <;> omega)) | omega) (fun x_26 e_x_26 => ?_)
      have b_x_26 : (-1000000000) ≤ x_26 ∧ x_26 ≤ 1000000000 := by rw [e_x_26]; exact iiA_y (s := shape_0) hσ (by first | assumption | decide | omega) _
      try simp (disch := omega) only [w32_of, w64_of, w8_of] at e_x_26
      have c17 := iiA_y (s := shape_0) hσ (by first | assumption | decide | omega) i_13
      refine wp_rdI (by (try dsimp only) <;> first | assumption | omega | ((try simp (disch := omega) only [w32_of, w64_of, w8_of]) <;> first | assumption | omega | (split <;> omega) | (refine And.intro ?_ ?_ <;> split <;> omega)) | omega) (by (try dsimp only) <;> first | assumption | omega | ((try simp (disch := omega) only [w32_of, w64_of, w8_of]) <;> first | assumption | omega | (split <;> omega) | (refine And.intro ?_ ?_ <;> split <;> omega)) | omega) (fun x_28 e_x_28 => ?_)
      have b_x_28 : (-1000000000) ≤ x_28 ∧ x_28 ≤ 1000000000 := by rw [e_x_28]; exact iiA_y (s := shape_0) hσ (by first | assumption | decide | omega) _
      try simp (disch := omega) only [w32_of, w64_of, w8_of] at e_x_28
      have c18 := w32_rng x_22
      have c19 := w32_rng x_24
      have c20 := w32_rng x_26
      have c21 := w32_rng x_28
      refine wp_lt (fun x_30 e_x_30 => ?_)
      try simp (disch := omega) only [w32_of, w64_of, w8_of] at e_x_30
      refine wp_bd (P := fun rr_ => True) ?_ ?_
      · have c23 := w64_rng x_30
        have c24 := w64_rng x_9
        refine wp_if (fun c22 => ?_) (fun c22 => ?_)
        · try simp (disch := omega) only [w32_of, w64_of, w8_of, decide_eq_true_eq, decide_eq_false_iff_not, Bool.not_eq_true] at c22
          exact wp_some trivial
        · try simp (disch := omega) only [w32_of, w64_of, w8_of, decide_eq_true_eq, decide_eq_false_iff_not, Bool.not_eq_true] at c22
          refine wp_bd (P := fun rr_ => True) ?_ ?_
          · refine wp_if (fun c25 => ?_) (fun c25 => ?_)
            · try simp (disch := omega) only [w32_of, w64_of, w8_of, decide_eq_true_eq, decide_eq_false_iff_not, Bool.not_eq_true] at c25
              exact wp_some trivial
            · try simp (disch := omega) only [w32_of, w64_of, w8_of, decide_eq_true_eq, decide_eq_false_iff_not, Bool.not_eq_true] at c25
              refine wp_bd (s_P_squareTo (σ := σ) (shape_0 := shape_0) (i_0 := i_13) (j_0 := b_0) hσ (by first | assumption | decide | omega) (by (try dsimp only) <;> first | assumption | omega | ((try simp (disch := omega) only [w32_of, w64_of, w8_of]) <;> first | assumption | omega | (split <;> omega) | (refine And.intro ?_ ?_ <;> split <;> omega)) | omega) (by (try dsimp only) <;> first | assumption | omega | ((try simp (disch := omega) only [w32_of, w64_of, w8_of]) <;> first | assumption | omega | (split <;> omega) | (refine And.intro ?_ ?_ <;> split <;> omega)) | omega)) ?_
              rintro x_51 - -
              exact wp_some trivial
          rintro x_53 _ -
          exact wp_some trivial
      rintro x_59 _ -
      refine wp_bd (P := fun rr_ => (-1 ≤ rr_.1 ∧ rr_.1 ≤ 2047)) ?_ ?_
      · have c28 := w64_rng x_30
        have c29 := w64_rng x_9
        refine wp_if (fun c27 => ?_) (fun c27 => ?_)
        · try simp (disch := omega) only [w32_of, w64_of, w8_of, decide_eq_true_eq, decide_eq_false_iff_not, Bool.not_eq_true, fP_isFarther] at c27
          exact wp_some (by (try dsimp only) <;> first | assumption | omega | ((try simp (disch := omega) only [w32_of, w64_of, w8_of]) <;> first | assumption | omega | (split <;> omega) | (refine And.intro ?_ ?_ <;> split <;> omega)) | omega)
        · try simp (disch := omega) only [w32_of, w64_of, w8_of, decide_eq_true_eq, decide_eq_false_iff_not, Bool.not_eq_true, fP_isFarther] at c27
          exact wp_some (by (try dsimp only) <;> first | assumption | omega | ((try simp (disch := omega) only [w32_of, w64_of, w8_of]) <;> first | assumption | omega | (split <;> omega) | (refine And.intro ?_ ?_ <;> split <;> omega)) | omega)
      rintro ⟨best_67, beside_68, size_69⟩ _ y31
      try dsimp only at y31 ⊢
      have g30 := y31
      exact wp_some (x_inl ⟨⟨(by (try dsimp only) <;> first | assumption | omega | ((try simp (disch := omega) only [w32_of, w64_of, w8_of]) <;> first | assumption | omega | (split <;> omega) | (refine And.intro ?_ ?_ <;> split <;> omega)) | omega), (by (try dsimp only) <;> first | assumption | omega | ((try simp (disch := omega) only [w32_of, w64_of, w8_of]) <;> first | assumption | omega | (split <;> omega) | (refine And.intro ?_ ?_ <;> split <;> omega)) | omega)⟩, (by (try dsimp only) <;> first | assumption | omega | ((try simp (disch := omega) only [w32_of, w64_of, w8_of]) <;> first | assumption | omega | (split <;> omega) | (refine And.intro ?_ ?_ <;> split <;> omega)) | omega)⟩)
    · try simp (disch := omega) only [w32_of, w64_of, w8_of, decide_eq_true_eq, decide_eq_false_iff_not, Bool.not_eq_true] at c14
      exact wp_some (x_inr (by (try dsimp only) <;> first | assumption | omega | ((try simp (disch := omega) only [w32_of, w64_of, w8_of]) <;> first | assumption | omega | (split <;> omega) | (refine And.intro ?_ ?_ <;> split <;> omega)) | omega))
  rintro ⟨best_79, beside_80, size_81, i_82⟩ _ y33
  try dsimp only at y33 ⊢
  have g32 := y33
  exact wp_some (by (try dsimp only) <;> first | assumption | omega | ((try simp (disch := omega) only [w32_of, w64_of, w8_of]) <;> first | assumption | omega | (split <;> omega) | (refine And.intro ?_ ?_ <;> split <;> omega)) | omega)
theorem s_P_markStaying {σ : SG} {shape_0 : Nat} {first_0 : Int} {last_0 : Int} {distance_0 : Int} (hσ : II σ) (hs_shape_0 : isS shape_0) (w0 : 0 ≤ first_0 ∧ first_0 ≤ 2048) (w1 : -1 ≤ last_0 ∧ last_0 ≤ 2047) : wp_ (fP_markStaying σ shape_0 first_0 last_0 distance_0) (fun zz_ => II zz_ ∧ FC [kP_stack, kP_stays] [] σ zz_) := by
  unfold fP_markStaying
  have c2 := w32_rng last_0
  have c3 := w32_rng first_0
  refine wp_if (fun c1 => ?_) (fun c1 => ?_)
  · try simp (disch := omega) only [w32_of, w64_of, w8_of, decide_eq_true_eq, decide_eq_false_iff_not, Bool.not_eq_true] at c1
    exact wp_some ⟨hσ, (FC_refl _ _ _)⟩
  · try simp (disch := omega) only [w32_of, w64_of, w8_of, decide_eq_true_eq, decide_eq_false_iff_not, Bool.not_eq_true] at c1
    refine wp_bd (P := fun rr_ => II rr_.2 ∧ FC [kP_stack, kP_stays] [] σ rr_.2 ∧ (True)) ?_ ?_
    · refine wp_whl (fun ss_ => II ss_.2 ∧ FC [kP_stack, kP_stays] [] σ ss_.2 ∧ (0 ≤ ss_.1 ∧ ss_.1 ≤ 2048)) (fun ss_ => (2049 - ss_.1).toNat) ⟨hσ, (FC_refl _ _ _), (by (try dsimp only) <;> first | assumption | omega | ((try simp (disch := omega) only [w32_of, w64_of, w8_of]) <;> first | assumption | omega | (split <;> omega) | (refine And.intro ?_ ?_ <;> split <;> omega)) | omega)⟩ ?_
      rintro ⟨i_2, σ_3⟩ y5
      try dsimp only at y5 ⊢
      obtain ⟨hσ_3, frσ_3, g4⟩ := y5
      have c7 := w32_rng i_2
      refine wp_if (fun c6 => ?_) (fun c6 => ?_)
      · try simp (disch := omega) only [w32_of, w64_of, w8_of, decide_eq_true_eq, decide_eq_false_iff_not, Bool.not_eq_true] at c6
        have c8 := bz_bd false
        try simp (disch := omega) only [w32_of, w64_of, w8_of] at c8
        refine wp_waI hσ_3 b_kP_stays (by (try dsimp only) <;> first | assumption | omega | ((try simp (disch := omega) only [w32_of, w64_of, w8_of]) <;> first | assumption | omega | (split <;> omega) | (refine And.intro ?_ ?_ <;> split <;> omega)) | omega) (by (try dsimp only) <;> first | assumption | omega | ((try simp (disch := omega) only [w32_of, w64_of, w8_of]) <;> first | assumption | omega | (split <;> omega) | (refine And.intro ?_ ?_ <;> split <;> omega)) | omega) (by (try dsimp only) <;> first | assumption | omega | ((try simp (disch := omega) only [w32_of, w64_of, w8_of]) <;> first | assumption | omega | (split <;> omega) | (refine And.intro ?_ ?_ <;> split <;> omega)) | omega) (fun σ_12 hσ_12 eσ_12 => ?_)
        try simp (disch := omega) only [w32_of, w64_of, w8_of] at eσ_12
        have flσ_12 := FC_sg eσ_12 (by first | decide | (rcases hE with rfl | rfl | rfl <;> decide))
        have frσ_12 : FC [kP_stack, kP_stays] [] σ σ_12 := FC_tr frσ_3 flσ_12 (by first | decide | (rcases hE with rfl | rfl | rfl <;> decide)) (by first | decide | (rcases hE with rfl | rfl | rfl <;> decide)) (by simp) (by simp)
        exact wp_some (x_inl ⟨⟨hσ_12, frσ_12, (by (try dsimp only) <;> first | assumption | omega | ((try simp (disch := omega) only [w32_of, w64_of, w8_of]) <;> first | assumption | omega | (split <;> omega) | (refine And.intro ?_ ?_ <;> split <;> omega)) | omega)⟩, (by (try dsimp only) <;> first | assumption | omega | ((try simp (disch := omega) only [w32_of, w64_of, w8_of]) <;> first | assumption | omega | (split <;> omega) | (refine And.intro ?_ ?_ <;> split <;> omega)) | omega)⟩)
      · try simp (disch := omega) only [w32_of, w64_of, w8_of, decide_eq_true_eq, decide_eq_false_iff_not, Bool.not_eq_true] at c6
        exact wp_some (x_inr ⟨hσ_3, frσ_3, (by (try dsimp only) <;> first | assumption | omega | ((try simp (disch := omega) only [w32_of, w64_of, w8_of]) <;> first | assumption | omega | (split <;> omega) | (refine And.intro ?_ ?_ <;> split <;> omega)) | omega)⟩)
    rintro ⟨i_16, σ_17⟩ _ y10
    try dsimp only at y10 ⊢
    obtain ⟨hσ_17, frσ_17, g9⟩ := y10
    have c11 := bz_bd true
    try simp (disch := omega) only [w32_of, w64_of, w8_of] at c11
    refine wp_waI hσ_17 b_kP_stays (by (try dsimp only) <;> first | assumption | omega | ((try simp (disch := omega) only [w32_of, w64_of, w8_of]) <;> first | assumption | omega | (split <;> omega) | (refine And.intro ?_ ?_ <;> split <;> omega)) | omega) (by (try dsimp only) <;> first | assumption | omega | ((try simp (disch := omega) only [w32_of, w64_of, w8_of]) <;> first | assumption | omega | (split <;> omega) | (refine And.intro ?_ ?_ <;> split <;> omega)) | omega) (by (try dsimp only) <;> first | assumption | omega | ((try simp (disch := omega) only [w32_of, w64_of, w8_of]) <;> first | assumption | omega | (split <;> omega) | (refine And.intro ?_ ?_ <;> split <;> omega)) | omega) (fun σ_18 hσ_18 eσ_18 => ?_)
    try simp (disch := omega) only [w32_of, w64_of, w8_of] at eσ_18
    have flσ_18 := FC_sg eσ_18 (by first | decide | (rcases hE with rfl | rfl | rfl <;> decide))
    have frσ_18 : FC [kP_stack, kP_stays] [] σ σ_18 := FC_tr frσ_17 flσ_18 (by first | decide | (rcases hE with rfl | rfl | rfl <;> decide)) (by first | decide | (rcases hE with rfl | rfl | rfl <;> decide)) (by simp) (by simp)
    refine wp_waI hσ_18 b_kP_stays (by (try dsimp only) <;> first | assumption | omega | ((try simp (disch := omega) only [w32_of, w64_of, w8_of]) <;> first | assumption | omega | (split <;> omega) | (refine And.intro ?_ ?_ <;> split <;> omega)) | omega) (by (try dsimp only) <;> first | assumption | omega | ((try simp (disch := omega) only [w32_of, w64_of, w8_of]) <;> first | assumption | omega | (split <;> omega) | (refine And.intro ?_ ?_ <;> split <;> omega)) | omega) (by (try dsimp only) <;> first | assumption | omega | ((try simp (disch := omega) only [w32_of, w64_of, w8_of]) <;> first | assumption | omega | (split <;> omega) | (refine And.intro ?_ ?_ <;> split <;> omega)) | omega) (fun σ_20 hσ_20 eσ_20 => ?_)
    try simp (disch := omega) only [w32_of, w64_of, w8_of] at eσ_20
    have flσ_20 := FC_sg eσ_20 (by first | decide | (rcases hE with rfl | rfl | rfl <;> decide))
    have frσ_20 : FC [kP_stack, kP_stays] [] σ σ_20 := FC_tr frσ_18 flσ_20 (by first | decide | (rcases hE with rfl | rfl | rfl <;> decide)) (by first | decide | (rcases hE with rfl | rfl | rfl <;> decide)) (by simp) (by simp)
    refine wp_waI hσ_20 b_kP_stack (by (try dsimp only) <;> first | assumption | omega | ((try simp (disch := omega) only [w32_of, w64_of, w8_of]) <;> first | assumption | omega | (split <;> omega) | (refine And.intro ?_ ?_ <;> split <;> omega)) | omega) (by (try dsimp only) <;> first | assumption | omega | ((try simp (disch := omega) only [w32_of, w64_of, w8_of]) <;> first | assumption | omega | (split <;> omega) | (refine And.intro ?_ ?_ <;> split <;> omega)) | omega) (by (try dsimp only) <;> first | assumption | omega | ((try simp (disch := omega) only [w32_of, w64_of, w8_of]) <;> first | assumption | omega | (split <;> omega) | (refine And.intro ?_ ?_ <;> split <;> omega)) | omega) (fun σ_22 hσ_22 eσ_22 => ?_)
    try simp (disch := omega) only [w32_of, w64_of, w8_of] at eσ_22
    have flσ_22 := FC_sg eσ_22 (by first | decide | (rcases hE with rfl | rfl | rfl <;> decide))
    have frσ_22 : FC [kP_stack, kP_stays] [] σ σ_22 := FC_tr frσ_20 flσ_22 (by first | decide | (rcases hE with rfl | rfl | rfl <;> decide)) (by first | decide | (rcases hE with rfl | rfl | rfl <;> decide)) (by simp) (by simp)
    refine wp_bd (P := fun rr_ => II rr_.2.2.2 ∧ FC [kP_stack, kP_stays] [] σ rr_.2.2.2 ∧ (True)) ?_ ?_
    · refine wp_whl (fun ss_ => II ss_.2.2.2 ∧ FC [kP_stack, kP_stays] [] σ ss_.2.2.2 ∧ (0 ≤ ss_.1 ∧ ss_.1 ≤ 2047) ∧ (0 ≤ ss_.2.1 ∧ ss_.2.1 ≤ 2048) ∧ (0 ≤ ss_.2.2.1 ∧ ss_.2.2.1 ≤ 4096)) (fun ss_ => (4097 - ss_.2.2.1).toNat) ⟨hσ_22, frσ_22, (by (try dsimp only) <;> first | assumption | omega | ((try simp (disch := omega) only [w32_of, w64_of, w8_of]) <;> first | assumption | omega | (split <;> omega) | (refine And.intro ?_ ?_ <;> split <;> omega)) | omega), (by (try dsimp only) <;> first | assumption | omega | ((try simp (disch := omega) only [w32_of, w64_of, w8_of]) <;> first | assumption | omega | (split <;> omega) | (refine And.intro ?_ ?_ <;> split <;> omega)) | omega), (by (try dsimp only) <;> first | assumption | omega | ((try simp (disch := omega) only [w32_of, w64_of, w8_of]) <;> first | assumption | omega | (split <;> omega) | (refine And.intro ?_ ?_ <;> split <;> omega)) | omega)⟩ ?_
      rintro ⟨present_24, size_25, step_26, σ_27⟩ y15
      try dsimp only at y15 ⊢
      obtain ⟨hσ_27, frσ_27, g12, g13, g14⟩ := y15
      have c17 := w32_rng size_25
      have c18 := w32_rng step_26
      have c19 := w32_rng (2 * 2048)
      refine wp_if (fun c16 => ?_) (fun c16 => ?_)
      · try simp (disch := omega) only [w32_of, w64_of, w8_of, decide_eq_true_eq, decide_eq_false_iff_not, Bool.not_eq_true] at c16
        have c20 := w32_rng (size_25 - 1)
        refine wp_rdI (by (try dsimp only) <;> first | assumption | omega | ((try simp (disch := omega) only [w32_of, w64_of, w8_of]) <;> first | assumption | omega | (split <;> omega) | (refine And.intro ?_ ?_ <;> split <;> omega)) | omega) (by (try dsimp only) <;> first | assumption | omega | ((try simp (disch := omega) only [w32_of, w64_of, w8_of]) <;> first | assumption | omega | (split <;> omega) | (refine And.intro ?_ ?_ <;> split <;> omega)) | omega) (fun x_35 e_x_35 => ?_)
        have b_x_35 : 0 ≤ x_35 ∧ x_35 ≤ 2047 := by rw [e_x_35]; exact ii_kP_stack hσ_27 _
        try simp (disch := omega) only [w32_of, w64_of, w8_of] at e_x_35
        have c21 := ii_kP_stack hσ_27 (size_25 - 1)
        refine wp_bd (s_P_farthest (σ := σ_27) (shape_0 := shape_0) (a_0 := present_24) (b_0 := x_35) (distance_0 := distance_0) hσ_27 (by first | assumption | decide | omega) (by (try dsimp only) <;> first | assumption | omega | ((try simp (disch := omega) only [w32_of, w64_of, w8_of]) <;> first | assumption | omega | (split <;> omega) | (refine And.intro ?_ ?_ <;> split <;> omega)) | omega) (by (try dsimp only) <;> first | assumption | omega | ((try simp (disch := omega) only [w32_of, w64_of, w8_of]) <;> first | assumption | omega | (split <;> omega) | (refine And.intro ?_ ?_ <;> split <;> omega)) | omega)) ?_
        rintro x_38 - g22
        try simp (disch := omega) only [w32_of, w64_of, w8_of] at g22
        refine wp_bd (P := fun rr_ => II rr_.2.2 ∧ FC [kP_stack, kP_stays] [] σ rr_.2.2 ∧ (0 ≤ rr_.1 ∧ rr_.1 ≤ 2047) ∧ (0 ≤ rr_.2.1 ∧ rr_.2.1 ≤ 2048)) ?_ ?_
        · have c24 := w32_rng x_38
          refine wp_if (fun c23 => ?_) (fun c23 => ?_)
          · try simp (disch := omega) only [w32_of, w64_of, w8_of, decide_eq_true_eq, decide_eq_false_iff_not, Bool.not_eq_true] at c23
            exact wp_some ⟨hσ_27, frσ_27, (by (try dsimp only) <;> first | assumption | omega | ((try simp (disch := omega) only [w32_of, w64_of, w8_of]) <;> first | assumption | omega | (split <;> omega) | (refine And.intro ?_ ?_ <;> split <;> omega)) | omega), (by (try dsimp only) <;> first | assumption | omega | ((try simp (disch := omega) only [w32_of, w64_of, w8_of]) <;> first | assumption | omega | (split <;> omega) | (refine And.intro ?_ ?_ <;> split <;> omega)) | omega)⟩
          · try simp (disch := omega) only [w32_of, w64_of, w8_of, decide_eq_true_eq, decide_eq_false_iff_not, Bool.not_eq_true] at c23
            refine wp_waI hσ_27 b_kP_stays (by (try dsimp only) <;> first | assumption | omega | ((try simp (disch := omega) only [w32_of, w64_of, w8_of]) <;> first | assumption | omega | (split <;> omega) | (refine And.intro ?_ ?_ <;> split <;> omega)) | omega) (by (try dsimp only) <;> first | assumption | omega | ((try simp (disch := omega) only [w32_of, w64_of, w8_of]) <;> first | assumption | omega | (split <;> omega) | (refine And.intro ?_ ?_ <;> split <;> omega)) | omega) (by (try dsimp only) <;> first | assumption | omega | ((try simp (disch := omega) only [w32_of, w64_of, w8_of]) <;> first | assumption | omega | (split <;> omega) | (refine And.intro ?_ ?_ <;> split <;> omega)) | omega) (fun σ_45 hσ_45 eσ_45 => ?_)
            try simp (disch := omega) only [w32_of, w64_of, w8_of] at eσ_45
            have flσ_45 := FC_sg eσ_45 (by first | decide | (rcases hE with rfl | rfl | rfl <;> decide))
            have frσ_45 : FC [kP_stack, kP_stays] [] σ σ_45 := FC_tr frσ_27 flσ_45 (by first | decide | (rcases hE with rfl | rfl | rfl <;> decide)) (by first | decide | (rcases hE with rfl | rfl | rfl <;> decide)) (by simp) (by simp)
            refine wp_waI hσ_45 b_kP_stack (by (try dsimp only) <;> first | assumption | omega | ((try simp (disch := omega) only [w32_of, w64_of, w8_of]) <;> first | assumption | omega | (split <;> omega) | (refine And.intro ?_ ?_ <;> split <;> omega)) | omega) (by (try dsimp only) <;> first | assumption | omega | ((try simp (disch := omega) only [w32_of, w64_of, w8_of]) <;> first | assumption | omega | (split <;> omega) | (refine And.intro ?_ ?_ <;> split <;> omega)) | omega) (by (try dsimp only) <;> first | assumption | omega | ((try simp (disch := omega) only [w32_of, w64_of, w8_of]) <;> first | assumption | omega | (split <;> omega) | (refine And.intro ?_ ?_ <;> split <;> omega)) | omega) (fun σ_47 hσ_47 eσ_47 => ?_)
            try simp (disch := omega) only [w32_of, w64_of, w8_of] at eσ_47
            have flσ_47 := FC_sg eσ_47 (by first | decide | (rcases hE with rfl | rfl | rfl <;> decide))
            have frσ_47 : FC [kP_stack, kP_stays] [] σ σ_47 := FC_tr frσ_45 flσ_47 (by first | decide | (rcases hE with rfl | rfl | rfl <;> decide)) (by first | decide | (rcases hE with rfl | rfl | rfl <;> decide)) (by simp) (by simp)
            exact wp_some ⟨hσ_47, frσ_47, (by (try dsimp only) <;> first | assumption | omega | ((try simp (disch := omega) only [w32_of, w64_of, w8_of]) <;> first | assumption | omega | (split <;> omega) | (refine And.intro ?_ ?_ <;> split <;> omega)) | omega), (by (try dsimp only) <;> first | assumption | omega | ((try simp (disch := omega) only [w32_of, w64_of, w8_of]) <;> first | assumption | omega | (split <;> omega) | (refine And.intro ?_ ?_ <;> split <;> omega)) | omega)⟩
        rintro ⟨present_50, size_51, σ_52⟩ _ y27
        try dsimp only at y27 ⊢
        obtain ⟨hσ_52, frσ_52, g25, g26⟩ := y27
        exact wp_some (x_inl ⟨⟨hσ_52, frσ_52, (by (try dsimp only) <;> first | assumption | omega | ((try simp (disch := omega) only [w32_of, w64_of, w8_of]) <;> first | assumption | omega | (split <;> omega) | (refine And.intro ?_ ?_ <;> split <;> omega)) | omega), (by (try dsimp only) <;> first | assumption | omega | ((try simp (disch := omega) only [w32_of, w64_of, w8_of]) <;> first | assumption | omega | (split <;> omega) | (refine And.intro ?_ ?_ <;> split <;> omega)) | omega), (by (try dsimp only) <;> first | assumption | omega | ((try simp (disch := omega) only [w32_of, w64_of, w8_of]) <;> first | assumption | omega | (split <;> omega) | (refine And.intro ?_ ?_ <;> split <;> omega)) | omega)⟩, (by (try dsimp only) <;> first | assumption | omega | ((try simp (disch := omega) only [w32_of, w64_of, w8_of]) <;> first | assumption | omega | (split <;> omega) | (refine And.intro ?_ ?_ <;> split <;> omega)) | omega)⟩)
      · try simp (disch := omega) only [w32_of, w64_of, w8_of, decide_eq_true_eq, decide_eq_false_iff_not, Bool.not_eq_true] at c16
        exact wp_some (x_inr ⟨hσ_27, frσ_27, (by (try dsimp only) <;> first | assumption | omega | ((try simp (disch := omega) only [w32_of, w64_of, w8_of]) <;> first | assumption | omega | (split <;> omega) | (refine And.intro ?_ ?_ <;> split <;> omega)) | omega)⟩)
    rintro ⟨present_65, size_66, step_67, σ_68⟩ _ y29
    try dsimp only at y29 ⊢
    obtain ⟨hσ_68, frσ_68, g28⟩ := y29
    exact wp_some ⟨hσ_68, frσ_68⟩
theorem s_P_thinRow {σ : SG} {shape_0 : Nat} {into_0 : Nat} {from_0 : Int} {length_0 : Int} {distance_0 : Int} (hσ : II σ) (hs_shape_0 : isS shape_0) (hs_into_0 : isS into_0) (w0 : 0 ≤ from_0 ∧ 0 ≤ length_0 ∧ from_0 + length_0 ≤ 2048) (w1 : ¬ into_0 = shape_0) : wp_ (fP_thinRow σ shape_0 into_0 from_0 length_0 distance_0) (fun zz_ => II zz_.2 ∧ FC [kP_stack, kP_stays] [into_0] σ zz_.2 ∧ (0 ≤ zz_.1 ∧ zz_.1 ≤ length_0) ∧ (zz_.2 (kA_points into_0) 0 = σ (kA_points into_0) 0 + zz_.1) ∧ (zz_.2 (kA_plans into_0) = σ (kA_plans into_0) ∧ zz_.2 (kA_plan into_0) = σ (kA_plan into_0))) := by
  unfold fP_thinRow
  have hpt := iiA_points hσ hs_into_0 0
  refine wp_bd (s_P_markStaying (σ := σ) (shape_0 := shape_0) (first_0 := from_0) (last_0 := ((from_0 + length_0) - 1)) (distance_0 := distance_0) hσ (by first | assumption | decide | omega) (by (try dsimp only) <;> first | assumption | omega | ((try simp (disch := omega) only [w32_of, w64_of, w8_of]) <;> first | assumption | omega | (split <;> omega) | (refine And.intro ?_ ?_ <;> split <;> omega)) | omega) (by (try dsimp only) <;> first | assumption | omega | ((try simp (disch := omega) only [w32_of, w64_of, w8_of]) <;> first | assumption | omega | (split <;> omega) | (refine And.intro ?_ ?_ <;> split <;> omega)) | omega)) ?_
  rintro σ_2 - ⟨hσ_2, flσ_2⟩
  have frσ_2 : FC [kP_stack, kP_stays] [into_0] σ σ_2 := FC_le flσ_2 (by first | decide | (rcases hE with rfl | rfl | rfl <;> decide)) (by simp)
  refine wp_bd (P := fun rr_ => II rr_.2 ∧ FC [kP_stack, kP_stays] [into_0] σ rr_.2 ∧ (σ (kA_points into_0) 0 ≤ rr_.2 (kA_points into_0) 0 ∧ rr_.2 (kA_points into_0) 0 ≤ σ (kA_points into_0) 0 + length_0) ∧ (rr_.2 (kA_plans into_0) = σ (kA_plans into_0) ∧ rr_.2 (kA_plan into_0) = σ (kA_plan into_0))) ?_ ?_
  · have c1 := iiA_points (s := into_0) hσ (by first | assumption | decide | omega) 0
    have c2 := iiA_points (s := into_0) hσ_2 (by first | assumption | decide | omega) 0
    have c3 := congrFun (FC_points (t := into_0) flσ_2 (by first | assumption | decide | omega) (NS_0 _)) 0
    refine wp_whl (fun ss_ => II ss_.2 ∧ FC [kP_stack, kP_stays] [into_0] σ ss_.2 ∧ (from_0 ≤ ss_.1 ∧ ss_.1 ≤ from_0 + length_0) ∧ (σ (kA_points into_0) 0 ≤ ss_.2 (kA_points into_0) 0 ∧ ss_.2 (kA_points into_0) 0 ≤ σ (kA_points into_0) 0 + (ss_.1 - from_0)) ∧ (ss_.2 (kA_plans into_0) = σ (kA_plans into_0) ∧ ss_.2 (kA_plan into_0) = σ (kA_plan into_0))) (fun ss_ => (from_0 + length_0 - ss_.1).toNat) ⟨hσ_2, frσ_2, (by (try dsimp only) <;> first | assumption | omega | ((try simp (disch := omega) only [w32_of, w64_of, w8_of]) <;> first | assumption | omega | (split <;> omega) | (refine And.intro ?_ ?_ <;> split <;> omega)) | omega), (by (try dsimp only) <;> first | assumption | omega | ((try simp (disch := omega) only [w32_of, w64_of, w8_of]) <;> first | assumption | omega | (split <;> omega) | (refine And.intro ?_ ?_ <;> split <;> omega)) | omega), (by (try dsimp only) <;> (first | exact ⟨FC_plans flσ_2 (by assumption) (NS_0 _), FC_plan flσ_2 (by assumption) (NS_0 _)⟩ | exact hp29))⟩ ?_
    rintro ⟨i_3, σ_4⟩ y6
    try dsimp only at y6 ⊢
    obtain ⟨hσ_4, frσ_4, g4, g5, hp4⟩ := y6
    have c8 := w32_rng i_3
    have c9 := w32_rng (from_0 + length_0)
    refine wp_if (fun c7 => ?_) (fun c7 => ?_)
    · try simp (disch := omega) only [w32_of, w64_of, w8_of, decide_eq_true_eq, decide_eq_false_iff_not, Bool.not_eq_true] at c7
      refine wp_bd (P := fun rr_ => II rr_ ∧ FC [kP_stack, kP_stays] [into_0] σ rr_ ∧ (σ_4 (kA_points into_0) 0 ≤ rr_ (kA_points into_0) 0 ∧ rr_ (kA_points into_0) 0 ≤ σ_4 (kA_points into_0) 0 + 1) ∧ (rr_ (kA_plans into_0) = σ (kA_plans into_0) ∧ rr_ (kA_plan into_0) = σ (kA_plan into_0))) ?_ ?_
      · refine wp_rdI (by (try dsimp only) <;> first | assumption | omega | ((try simp (disch := omega) only [w32_of, w64_of, w8_of]) <;> first | assumption | omega | (split <;> omega) | (refine And.intro ?_ ?_ <;> split <;> omega)) | omega) (by (try dsimp only) <;> first | assumption | omega | ((try simp (disch := omega) only [w32_of, w64_of, w8_of]) <;> first | assumption | omega | (split <;> omega) | (refine And.intro ?_ ?_ <;> split <;> omega)) | omega) (fun x_17 e_x_17 => ?_)
        have b_x_17 : 0 ≤ x_17 ∧ x_17 ≤ 1 := by rw [e_x_17]; exact ii_kP_stays hσ_4 _
        try simp (disch := omega) only [w32_of, w64_of, w8_of] at e_x_17
        have c10 := ii_kP_stays hσ_4 i_3
        refine wp_if (fun c11 => ?_) (fun c11 => ?_)
        · try simp (disch := omega) only [w32_of, w64_of, w8_of, decide_eq_true_eq, decide_eq_false_iff_not, Bool.not_eq_true] at c11
          refine wp_rdI (by (try dsimp only) <;> first | assumption | omega | ((try simp (disch := omega) only [w32_of, w64_of, w8_of]) <;> first | assumption | omega | (split <;> omega) | (refine And.intro ?_ ?_ <;> split <;> omega)) | omega) (by (try dsimp only) <;> first | assumption | omega | ((try simp (disch := omega) only [w32_of, w64_of, w8_of]) <;> first | assumption | omega | (split <;> omega) | (refine And.intro ?_ ?_ <;> split <;> omega)) | omega) (fun x_20 e_x_20 => ?_)
          have b_x_20 : (-1000000000) ≤ x_20 ∧ x_20 ≤ 1000000000 := by rw [e_x_20]; exact iiA_x (s := shape_0) hσ_4 (by first | assumption | decide | omega) _
          rw [FC_x (t := shape_0) frσ_4 (by first | assumption | decide | omega) (NS_1 (by first | assumption | decide | omega) (by first | assumption | decide | omega))] at e_x_20
          try simp (disch := omega) only [w32_of, w64_of, w8_of] at e_x_20
          have c12 := iiA_x (s := shape_0) hσ_4 (by first | assumption | decide | omega) i_3
          have c13 := congrFun (FC_x (t := shape_0) frσ_4 (by first | assumption | decide | omega) (NS_1 (by first | assumption | decide | omega) (by first | assumption | decide | omega))) i_3
          have c14 := iiA_x (s := shape_0) hσ (by first | assumption | decide | omega) i_3
          refine wp_rdI (by (try dsimp only) <;> first | assumption | omega | ((try simp (disch := omega) only [w32_of, w64_of, w8_of]) <;> first | assumption | omega | (split <;> omega) | (refine And.intro ?_ ?_ <;> split <;> omega)) | omega) (by (try dsimp only) <;> first | assumption | omega | ((try simp (disch := omega) only [w32_of, w64_of, w8_of]) <;> first | assumption | omega | (split <;> omega) | (refine And.intro ?_ ?_ <;> split <;> omega)) | omega) (fun x_22 e_x_22 => ?_)
          have b_x_22 : (-1000000000) ≤ x_22 ∧ x_22 ≤ 1000000000 := by rw [e_x_22]; exact iiA_y (s := shape_0) hσ_4 (by first | assumption | decide | omega) _
          rw [FC_y (t := shape_0) frσ_4 (by first | assumption | decide | omega) (NS_1 (by first | assumption | decide | omega) (by first | assumption | decide | omega))] at e_x_22
          try simp (disch := omega) only [w32_of, w64_of, w8_of] at e_x_22
          have c15 := iiA_y (s := shape_0) hσ_4 (by first | assumption | decide | omega) i_3
          have c16 := congrFun (FC_y (t := shape_0) frσ_4 (by first | assumption | decide | omega) (NS_1 (by first | assumption | decide | omega) (by first | assumption | decide | omega))) i_3
          have c17 := iiA_y (s := shape_0) hσ (by first | assumption | decide | omega) i_3
          refine wp_bd (v_addPoint (σ := σ_4) (this_0 := into_0) (px_0 := x_20) (py_0 := x_22) hσ_4 (by first | assumption | decide | omega) (by (try dsimp only) <;> first | assumption | omega | ((try simp (disch := omega) only [w32_of, w64_of, w8_of]) <;> first | assumption | omega | (split <;> omega) | (refine And.intro ?_ ?_ <;> split <;> omega)) | omega) (by (try dsimp only) <;> first | assumption | omega | ((try simp (disch := omega) only [w32_of, w64_of, w8_of]) <;> first | assumption | omega | (split <;> omega) | (refine And.intro ?_ ?_ <;> split <;> omega)) | omega)) ?_
          rintro ⟨x_26, σ_25⟩ - y18
          try dsimp only at y18 ⊢
          obtain ⟨hσ_25, flσ_25, p1, p2, p3, p4, p5⟩ := y18
          have frσ_25 : FC [kP_stack, kP_stays] [into_0] σ σ_25 := FC_tr frσ_4 flσ_25 (by first | decide | (rcases hE with rfl | rfl | rfl <;> decide)) (by first | decide | (rcases hE with rfl | rfl | rfl <;> decide)) (by simp) (by simp)
          have c19 := iiA_points (s := into_0) hσ_4 (by first | assumption | decide | omega) 0
          try simp (disch := omega) only [w32_of, w64_of, w8_of] at p1
          try simp (disch := omega) only [w32_of, w64_of, w8_of] at p2
          have c20 := iiA_points (s := into_0) hσ_25 (by first | assumption | decide | omega) 0
          have c21 := iiA_x (s := into_0) hσ_25 (by first | assumption | decide | omega) (σ_4 (kA_points into_0) 0)
          have c22 := iiA_y (s := into_0) hσ_25 (by first | assumption | decide | omega) (σ_4 (kA_points into_0) 0)
          try simp (disch := omega) only [w32_of, w64_of, w8_of] at p3
          try simp (disch := omega) only [w32_of, w64_of, w8_of] at p4
          try simp (disch := omega) only [w32_of, w64_of, w8_of] at p5
          exact wp_some ⟨hσ_25, frσ_25, (by (try dsimp only) <;> (first | omega | exact (if z : x_26 = true then (by have q1 := (p3 z).1; omega) else (by rw [p2 (Bool.eq_false_iff.mpr z)]; omega)))), (by (try dsimp only) <;> (first | exact hp4 | exact ⟨p4.trans hp4.1, p5.trans hp4.2⟩))⟩
        · try simp (disch := omega) only [w32_of, w64_of, w8_of, decide_eq_true_eq, decide_eq_false_iff_not, Bool.not_eq_true] at c11
          have c23 := iiA_points (s := into_0) hσ_4 (by first | assumption | decide | omega) 0
          exact wp_some ⟨hσ_4, frσ_4, (by (try dsimp only) <;> (first | omega | exact (if z : x_26 = true then (by have q1 := (p3 z).1; omega) else (by rw [p2 (Bool.eq_false_iff.mpr z)]; omega)))), (by (try dsimp only) <;> (first | exact hp4 | exact ⟨p4.trans hp4.1, p5.trans hp4.2⟩))⟩
      rintro σ_29 _ ⟨hσ_29, frσ_29, g24, hp29⟩
      have c25 := iiA_points (s := into_0) hσ_29 (by first | assumption | decide | omega) 0
      exact wp_some (x_inl ⟨⟨hσ_29, frσ_29, (by (try dsimp only) <;> first | assumption | omega | ((try simp (disch := omega) only [w32_of, w64_of, w8_of]) <;> first | assumption | omega | (split <;> omega) | (refine And.intro ?_ ?_ <;> split <;> omega)) | omega), (by (try dsimp only) <;> first | assumption | omega | ((try simp (disch := omega) only [w32_of, w64_of, w8_of]) <;> first | assumption | omega | (split <;> omega) | (refine And.intro ?_ ?_ <;> split <;> omega)) | omega), (by (try dsimp only) <;> (first | exact ⟨FC_plans flσ_2 (by assumption) (NS_0 _), FC_plan flσ_2 (by assumption) (NS_0 _)⟩ | exact hp29))⟩, (by (try dsimp only) <;> first | assumption | omega | ((try simp (disch := omega) only [w32_of, w64_of, w8_of]) <;> first | assumption | omega | (split <;> omega) | (refine And.intro ?_ ?_ <;> split <;> omega)) | omega)⟩)
    · try simp (disch := omega) only [w32_of, w64_of, w8_of, decide_eq_true_eq, decide_eq_false_iff_not, Bool.not_eq_true] at c7
      have c26 := iiA_points (s := into_0) hσ_4 (by first | assumption | decide | omega) 0
      exact wp_some (x_inr ⟨hσ_4, frσ_4, (by (try dsimp only) <;> first | assumption | omega | ((try simp (disch := omega) only [w32_of, w64_of, w8_of]) <;> first | assumption | omega | (split <;> omega) | (refine And.intro ?_ ?_ <;> split <;> omega)) | omega), (by (try dsimp only) <;> (exact hp4))⟩)
  rintro ⟨i_33, σ_34⟩ _ y28
  try dsimp only at y28 ⊢
  obtain ⟨hσ_34, frσ_34, g27, hp34⟩ := y28
  have c29 := iiA_points (s := into_0) hσ_34 (by first | assumption | decide | omega) 0
  have c30 := iiA_points (s := into_0) hσ (by first | assumption | decide | omega) 0
  exact wp_some ⟨hσ_34, frσ_34, (by (try dsimp only) <;> first | assumption | omega | ((try simp (disch := omega) only [w32_of, w64_of, w8_of]) <;> first | assumption | omega | (split <;> omega) | (refine And.intro ?_ ?_ <;> split <;> omega)) | omega), (by (try dsimp only) <;> first | assumption | omega | ((try simp (disch := omega) only [w32_of, w64_of, w8_of]) <;> first | assumption | omega | (split <;> omega) | (refine And.intro ?_ ?_ <;> split <;> omega)) | omega), (by (try dsimp only) <;> (exact hp34))⟩
theorem s_P_tellTriangles {σ : SG} {into_0 : Nat} (hσ : II σ) (hs_into_0 : isS into_0) : wp_ (fP_tellTriangles σ into_0) (fun zz_ => II zz_.2 ∧ FC [] [into_0] σ zz_.2 ∧ (0 ≤ zz_.1) ∧ (SHa zz_.2 into_0)) := by
  unfold fP_tellTriangles
  have htc := ii_kP_triangleCount hσ 0
  refine wp_bd (v_clearA (σ := σ) (this_0 := into_0) hσ (by first | assumption | decide | omega)) ?_
  rintro σ_2 - ⟨hσ_2, flσ_2, hc1, hc2⟩
  have frσ_2 : FC [] [into_0] σ σ_2 := FC_le flσ_2 (by first | decide | (rcases hE with rfl | rfl | rfl <;> decide)) (by simp)
  have c1 := iiA_plans (s := into_0) hσ_2 (by first | assumption | decide | omega) 0
  try simp (disch := omega) only [w32_of, w64_of, w8_of] at hc1
  have c2 := iiA_points (s := into_0) hσ_2 (by first | assumption | decide | omega) 0
  try simp (disch := omega) only [w32_of, w64_of, w8_of] at hc2
  have c3 := ii_kP_triangleCount hσ_2 0
  have c4 := FC_at flσ_2 (c := kP_triangleCount) (by first | decide | (rcases hE with rfl | rfl | rfl <;> decide)) 0
  have c5 := ii_kP_triangleCount hσ 0
  refine wp_bd (v_addShape (σ := σ_2) (this_0 := into_0) (kind_0 := 6) (parts_0 := (σ_2 kP_triangleCount 0)) hσ_2 (by first | assumption | decide | omega)) ?_
  rintro ⟨x_5, σ_4⟩ - y6
  try dsimp only at y6 ⊢
  obtain ⟨hσ_4, flσ_4, a1, a2, a3, a4, a5, a6⟩ := y6
  have frσ_4 : FC [] [into_0] σ σ_4 := FC_tr frσ_2 flσ_4 (by first | decide | (rcases hE with rfl | rfl | rfl <;> decide)) (by first | decide | (rcases hE with rfl | rfl | rfl <;> decide)) (by simp) (by simp)
  try simp (disch := omega) only [w32_of, w64_of, w8_of] at a1
  try simp (disch := omega) only [w32_of, w64_of, w8_of] at a2
  have c7 := iiA_plans (s := into_0) hσ_4 (by first | assumption | decide | omega) 0
  try simp (disch := omega) only [w32_of, w64_of, w8_of] at a3
  try simp (disch := omega) only [w32_of, w64_of, w8_of] at a4
  try simp (disch := omega) only [w32_of, w64_of, w8_of] at a5
  try simp (disch := omega) only [w32_of, w64_of, w8_of] at a6
  have q4 := congrFun a4 0
  have h9 := a3 (a1.mpr (by omega))
  rw [hc1] at h9
  have hf4 : ∃ m, FL (σ_4 (kA_plan into_0)) m 0 (σ_4 (kA_plans into_0) 0) (σ_4 (kA_points into_0) 0) := by
    have := FL_app (pl := σ_4 (kA_plan into_0)) (m := 0) (p := 0) (q := 0) (t := 0) ⟨rfl, rfl⟩ ⟨by omega, by omega, by rw [show (0 : Int) + 1 = 0 + 1 from rfl, h9.2.2.1]; have := FC_at flσ_2 (c := kP_triangleCount) (by decide) 0; omega, fun z => by omega, fun z => by omega⟩
    rw [el_n (by omega), ep_g (by omega)] at this
    refine ⟨1, ?_⟩
    rw [show σ_4 (kA_points into_0) 0 = 0 by rw [a4]; exact hc2, h9.1]; exact this
  have h9a := h9.1
  clear h9
  refine wp_bd (P := fun rr_ => II rr_.2 ∧ FC [] [into_0] σ rr_.2 ∧ (∃ m, FL (rr_.2 (kA_plan into_0)) m 0 (rr_.2 (kA_plans into_0) 0) (rr_.2 (kA_points into_0) 0)) ∧ (2 ≤ rr_.2 (kA_plans into_0) 0)) ?_ ?_
  · have c8 := iiA_points (s := into_0) hσ_4 (by first | assumption | decide | omega) 0
    refine wp_whl (fun ss_ => II ss_.2 ∧ FC [] [into_0] σ ss_.2 ∧ (0 ≤ ss_.1 ∧ ss_.1 ≤ 512) ∧ (ss_.2 (kA_plans into_0) 0 = 2 + 3 * ss_.1) ∧ (ss_.2 (kA_points into_0) 0 = 4 * ss_.1) ∧ (∃ m, FL (ss_.2 (kA_plan into_0)) m 0 (ss_.2 (kA_plans into_0) 0) (ss_.2 (kA_points into_0) 0))) (fun ss_ => (513 - ss_.1).toNat) ⟨hσ_4, frσ_4, (by (try dsimp only) <;> first | omega | ((try simp (disch := omega) only [w32_of, w64_of, w8_of]) <;> first | omega | (split <;> omega) | (refine And.intro ?_ ?_ <;> split <;> omega)) | omega), (by (try dsimp only) <;> (first | exact h9a.trans (by decide) | exact h48a)), (by (try dsimp only) <;> (first | exact (q4.trans hc2).trans (by decide) | exact h48b)), (by (try dsimp only) <;> (first | exact hf4 | exact hf48))⟩ ?_
    rintro ⟨i_6, σ_7⟩ y10
    try dsimp only at y10 ⊢
    obtain ⟨hσ_7, frσ_7, g9, hA, hB, hfl⟩ := y10
    have c12 := w32_rng i_6
    have c13 := ii_kP_triangleCount hσ_7 0
    have c14 := FC_at frσ_7 (c := kP_triangleCount) (by first | decide | (rcases hE with rfl | rfl | rfl <;> decide)) 0
    have c15 := w32_rng (σ_7 kP_triangleCount 0)
    refine wp_if (fun c11 => ?_) (fun c11 => ?_)
    · try simp (disch := omega) only [w32_of, w64_of, w8_of, decide_eq_true_eq, decide_eq_false_iff_not, Bool.not_eq_true] at c11
      refine wp_bd (v_addShape (σ := σ_7) (this_0 := into_0) (kind_0 := 3) (parts_0 := 1) hσ_7 (by first | assumption | decide | omega)) ?_
      rintro ⟨x_18, σ_17⟩ - y16
      try dsimp only at y16 ⊢
      obtain ⟨hσ_17, flσ_17, b1, b2, b3, b4, b5, b6⟩ := y16
      have frσ_17 : FC [] [into_0] σ σ_17 := FC_tr frσ_7 flσ_17 (by first | decide | (rcases hE with rfl | rfl | rfl <;> decide)) (by first | decide | (rcases hE with rfl | rfl | rfl <;> decide)) (by simp) (by simp)
      have c17 := iiA_plans (s := into_0) hσ_7 (by first | assumption | decide | omega) 0
      try simp (disch := omega) only [w32_of, w64_of, w8_of] at b1
      try simp (disch := omega) only [w32_of, w64_of, w8_of] at b2
      have c18 := iiA_plans (s := into_0) hσ_17 (by first | assumption | decide | omega) 0
      try simp (disch := omega) only [w32_of, w64_of, w8_of] at b3
      try simp (disch := omega) only [w32_of, w64_of, w8_of] at b4
      try simp (disch := omega) only [w32_of, w64_of, w8_of] at b5
      try simp (disch := omega) only [w32_of, w64_of, w8_of] at b6
      refine wp_bd (v_addRing (σ := σ_17) (this_0 := into_0) (length_0 := 4) hσ_17 (by first | assumption | decide | omega)) ?_
      rintro ⟨x_21, σ_20⟩ - y19
      try dsimp only at y19 ⊢
      obtain ⟨hσ_20, flσ_20, d1, d2, d3, d4, d5, d6⟩ := y19
      have frσ_20 : FC [] [into_0] σ σ_20 := FC_tr frσ_17 flσ_20 (by first | decide | (rcases hE with rfl | rfl | rfl <;> decide)) (by first | decide | (rcases hE with rfl | rfl | rfl <;> decide)) (by simp) (by simp)
      try simp (disch := omega) only [w32_of, w64_of, w8_of] at d1
      try simp (disch := omega) only [w32_of, w64_of, w8_of] at d2
      have c20 := iiA_plans (s := into_0) hσ_20 (by first | assumption | decide | omega) 0
      try simp (disch := omega) only [w32_of, w64_of, w8_of] at d3
      try simp (disch := omega) only [w32_of, w64_of, w8_of] at d4
      try simp (disch := omega) only [w32_of, w64_of, w8_of] at d5
      try simp (disch := omega) only [w32_of, w64_of, w8_of] at d6
      have g9 := b3 (b1.mpr (by omega))
      have g8 := d3 (d1.mpr (by omega))
      have g7 := TT_go (pm := σ_20 (kA_plan into_0)) hfl (by rw [g8.2.2 _ (by omega)]; exact g9.2.1) (by rw [g8.2.2 _ (by omega)]; exact g9.2.2.1) (by rw [show σ_7 (kA_plans into_0) 0 + 2 = σ_17 (kA_plans into_0) 0 by omega]; exact g8.2.1) (fun i hi => by rw [g8.2.2 i (by omega)]; exact g9.2.2.2 i (by omega) (by omega))
      refine wp_bd (P := fun rr_ => II rr_.2 ∧ FC [] [into_0] σ rr_.2 ∧ (rr_.2 (kA_plans into_0) 0 = 2 + 3 * (i_6 + 1)) ∧ (rr_.2 (kA_points into_0) 0 = 4 * (i_6 + 1)) ∧ (∃ m, FL (rr_.2 (kA_plan into_0)) m 0 (rr_.2 (kA_plans into_0) 0) (rr_.2 (kA_points into_0) 0))) ?_ ?_
      · have c21 := iiA_points (s := into_0) hσ_20 (by first | assumption | decide | omega) 0
        refine wp_whl (fun ss_ => II ss_.2 ∧ FC [] [into_0] σ ss_.2 ∧ (-2 ≤ ss_.1 ∧ ss_.1 ≤ 2) ∧ (ss_.2 (kA_points into_0) 0 = 4 * i_6 + (2 - ss_.1)) ∧ (ss_.2 (kA_plans into_0) = σ_20 (kA_plans into_0) ∧ ss_.2 (kA_plan into_0) = σ_20 (kA_plan into_0))) (fun ss_ => (ss_.1 + 2).toNat) ⟨hσ_20, frσ_20, (by (try dsimp only) <;> first | omega | ((try simp (disch := omega) only [w32_of, w64_of, w8_of]) <;> first | omega | (split <;> omega) | (refine And.intro ?_ ?_ <;> split <;> omega)) | omega), (by (try dsimp only) <;> (first | omega | (have q1 := congrFun d4 0; have q2 := congrFun b4 0; omega) | (have q1 := (p3 (p1.mpr (by omega))).1; omega))), (by (try dsimp only) <;> (first | exact ⟨rfl, rfl⟩ | exact ⟨p4.trans hpp.1, p5.trans hpp.2⟩))⟩ ?_
        rintro ⟨k_22, σ_23⟩ y23
        try dsimp only at y23 ⊢
        obtain ⟨hσ_23, frσ_23, g22, hC, hpp⟩ := y23
        have c25 := w32_rng k_22
        refine wp_if (fun c24 => ?_) (fun c24 => ?_)
        · try simp (disch := omega) only [w32_of, w64_of, w8_of, decide_eq_true_eq, decide_eq_false_iff_not, Bool.not_eq_true] at c24
          refine wp_rdI (by (try dsimp only) <;> first | omega | ((try simp (disch := omega) only [w32_of, w64_of, w8_of]) <;> first | omega | (split <;> omega) | (refine And.intro ?_ ?_ <;> split <;> omega)) | omega) (by (try dsimp only) <;> first | omega | ((try simp (disch := omega) only [w32_of, w64_of, w8_of]) <;> first | omega | (split <;> omega) | (refine And.intro ?_ ?_ <;> split <;> omega)) | omega) (fun x_33 e_x_33 => ?_)
          rw [FC_at frσ_23 (c := kP_triangle) (by first | decide | (rcases hE with rfl | rfl | rfl <;> decide))] at e_x_33
          try simp (disch := omega) only [w32_of, w64_of, w8_of] at e_x_33
          have c26 := FC_at frσ_23 (c := kP_triangle) (by first | decide | (rcases hE with rfl | rfl | rfl <;> decide)) i_6
          have c27 := q_lsr_rng x_33 (10 * (if ((w32 k_22) < 0) then 2 else k_22))
          have c28 := q_ian_bd (q_lsr x_33 (10 * (if ((w32 k_22) < 0) then 2 else k_22))) (m := 1023) (by decide) (by decide)
          try simp (disch := omega) only [w32_of, w64_of, w8_of] at c28
          have c29 := w32_rng (q_ian (q_lsr x_33 (10 * (if ((w32 k_22) < 0) then 2 else k_22))) 1023)
          refine wp_rdI (by (try dsimp only) <;> first | omega | ((try simp (disch := omega) only [w32_of, w64_of, w8_of]) <;> first | omega | (split <;> omega) | (refine And.intro ?_ ?_ <;> split <;> omega)) | omega) (by (try dsimp only) <;> first | omega | ((try simp (disch := omega) only [w32_of, w64_of, w8_of]) <;> first | omega | (split <;> omega) | (refine And.intro ?_ ?_ <;> split <;> omega)) | omega) (fun x_35 e_x_35 => ?_)
          have b_x_35 : 0 ≤ x_35 ∧ x_35 ≤ 1023 := by rw [e_x_35]; exact ii_kP_placeWith hσ_23 _
          rw [FC_at frσ_23 (c := kP_placeWith) (by first | decide | (rcases hE with rfl | rfl | rfl <;> decide))] at e_x_35
          try simp (disch := omega) only [w32_of, w64_of, w8_of] at e_x_35
          have c30 := ii_kP_placeWith hσ_23 (q_ian (q_lsr x_33 (10 * (if ((w32 k_22) < 0) then 2 else k_22))) 1023)
          have c31 := FC_at frσ_23 (c := kP_placeWith) (by first | decide | (rcases hE with rfl | rfl | rfl <;> decide)) (q_ian (q_lsr x_33 (10 * (if ((w32 k_22) < 0) then 2 else k_22))) 1023)
          have c32 := ii_kP_placeWith hσ (q_ian (q_lsr x_33 (10 * (if ((w32 k_22) < 0) then 2 else k_22))) 1023)
          have c33 := w32_rng x_35
          refine wp_rdI (by (try dsimp only) <;> first | omega | ((try simp (disch := omega) only [w32_of, w64_of, w8_of]) <;> first | omega | (split <;> omega) | (refine And.intro ?_ ?_ <;> split <;> omega)) | omega) (by (try dsimp only) <;> first | omega | ((try simp (disch := omega) only [w32_of, w64_of, w8_of]) <;> first | omega | (split <;> omega) | (refine And.intro ?_ ?_ <;> split <;> omega)) | omega) (fun x_37 e_x_37 => ?_)
          have b_x_37 : (-1000000000) ≤ x_37 ∧ x_37 ≤ 1000000000 := by rw [e_x_37]; exact ii_kP_placeX hσ_23 _
          rw [FC_at frσ_23 (c := kP_placeX) (by first | decide | (rcases hE with rfl | rfl | rfl <;> decide))] at e_x_37
          try simp (disch := omega) only [w32_of, w64_of, w8_of] at e_x_37
          have c34 := ii_kP_placeX hσ_23 x_35
          have c35 := FC_at frσ_23 (c := kP_placeX) (by first | decide | (rcases hE with rfl | rfl | rfl <;> decide)) x_35
          have c36 := ii_kP_placeX hσ x_35
          refine wp_rdI (by (try dsimp only) <;> first | omega | ((try simp (disch := omega) only [w32_of, w64_of, w8_of]) <;> first | omega | (split <;> omega) | (refine And.intro ?_ ?_ <;> split <;> omega)) | omega) (by (try dsimp only) <;> first | omega | ((try simp (disch := omega) only [w32_of, w64_of, w8_of]) <;> first | omega | (split <;> omega) | (refine And.intro ?_ ?_ <;> split <;> omega)) | omega) (fun x_39 e_x_39 => ?_)
          have b_x_39 : (-1000000000) ≤ x_39 ∧ x_39 ≤ 1000000000 := by rw [e_x_39]; exact ii_kP_placeY hσ_23 _
          rw [FC_at frσ_23 (c := kP_placeY) (by first | decide | (rcases hE with rfl | rfl | rfl <;> decide))] at e_x_39
          try simp (disch := omega) only [w32_of, w64_of, w8_of] at e_x_39
          have c37 := ii_kP_placeY hσ_23 x_35
          have c38 := FC_at frσ_23 (c := kP_placeY) (by first | decide | (rcases hE with rfl | rfl | rfl <;> decide)) x_35
          have c39 := ii_kP_placeY hσ x_35
          refine wp_bd (v_addPoint (σ := σ_23) (this_0 := into_0) (px_0 := x_37) (py_0 := x_39) hσ_23 (by first | assumption | decide | omega) (by (try dsimp only) <;> first | omega | ((try simp (disch := omega) only [w32_of, w64_of, w8_of]) <;> first | omega | (split <;> omega) | (refine And.intro ?_ ?_ <;> split <;> omega)) | omega) (by (try dsimp only) <;> first | omega | ((try simp (disch := omega) only [w32_of, w64_of, w8_of]) <;> first | omega | (split <;> omega) | (refine And.intro ?_ ?_ <;> split <;> omega)) | omega)) ?_
          rintro ⟨x_43, σ_42⟩ - y40
          try dsimp only at y40 ⊢
          obtain ⟨hσ_42, flσ_42, p1, p2, p3, p4, p5⟩ := y40
          have frσ_42 : FC [] [into_0] σ σ_42 := FC_tr frσ_23 flσ_42 (by first | decide | (rcases hE with rfl | rfl | rfl <;> decide)) (by first | decide | (rcases hE with rfl | rfl | rfl <;> decide)) (by simp) (by simp)
          have c41 := iiA_points (s := into_0) hσ_23 (by first | assumption | decide | omega) 0
          try simp (disch := omega) only [w32_of, w64_of, w8_of] at p1
          try simp (disch := omega) only [w32_of, w64_of, w8_of] at p2
          have c42 := iiA_points (s := into_0) hσ_42 (by first | assumption | decide | omega) 0
          have c43 := iiA_x (s := into_0) hσ_42 (by first | assumption | decide | omega) (σ_23 (kA_points into_0) 0)
          have c44 := iiA_y (s := into_0) hσ_42 (by first | assumption | decide | omega) (σ_23 (kA_points into_0) 0)
          try simp (disch := omega) only [w32_of, w64_of, w8_of] at p3
          try simp (disch := omega) only [w32_of, w64_of, w8_of] at p4
          try simp (disch := omega) only [w32_of, w64_of, w8_of] at p5
          exact wp_some (x_inl ⟨⟨hσ_42, frσ_42, (by (try dsimp only) <;> first | omega | ((try simp (disch := omega) only [w32_of, w64_of, w8_of]) <;> first | omega | (split <;> omega) | (refine And.intro ?_ ?_ <;> split <;> omega)) | omega), (by (try dsimp only) <;> (first | omega | (have q1 := congrFun d4 0; have q2 := congrFun b4 0; omega) | (have q1 := (p3 (p1.mpr (by omega))).1; omega))), (by (try dsimp only) <;> (first | exact ⟨rfl, rfl⟩ | exact ⟨p4.trans hpp.1, p5.trans hpp.2⟩))⟩, (by (try dsimp only) <;> first | omega | ((try simp (disch := omega) only [w32_of, w64_of, w8_of]) <;> first | omega | (split <;> omega) | (refine And.intro ?_ ?_ <;> split <;> omega)) | omega)⟩)
        · try simp (disch := omega) only [w32_of, w64_of, w8_of, decide_eq_true_eq, decide_eq_false_iff_not, Bool.not_eq_true] at c24
          have c45 := iiA_plans (s := into_0) hσ_23 (by first | assumption | decide | omega) 0
          have c46 := iiA_points (s := into_0) hσ_23 (by first | assumption | decide | omega) 0
          exact wp_some (x_inr ⟨hσ_23, frσ_23, (by (try dsimp only) <;> (rw [hpp.1, g8.1, g9.1, hA]; exact tri_a i_6)), (by (try dsimp only) <;> (rw [hC, show k_22 = -2 by omega]; exact tri_b i_6)), (by (try dsimp only) <;> (rw [hpp.1, hpp.2, show σ_23 (kA_points into_0) 0 = σ_7 (kA_points into_0) 0 + 4 by omega, show σ_20 (kA_plans into_0) 0 = σ_7 (kA_plans into_0) 0 + 3 by omega]; exact g7))⟩)
      rintro ⟨k_47, σ_48⟩ _ y47
      try dsimp only at y47 ⊢
      obtain ⟨hσ_48, frσ_48, h48a, h48b, hf48⟩ := y47
      have c48 := iiA_plans (s := into_0) hσ_48 (by first | assumption | decide | omega) 0
      have c49 := iiA_points (s := into_0) hσ_48 (by first | assumption | decide | omega) 0
      exact wp_some (x_inl ⟨⟨hσ_48, frσ_48, (by (try dsimp only) <;> first | omega | ((try simp (disch := omega) only [w32_of, w64_of, w8_of]) <;> first | omega | (split <;> omega) | (refine And.intro ?_ ?_ <;> split <;> omega)) | omega), (by (try dsimp only) <;> (first | exact h9a.trans (by decide) | exact h48a)), (by (try dsimp only) <;> (first | exact (q4.trans hc2).trans (by decide) | exact h48b)), (by (try dsimp only) <;> (first | exact hf4 | exact hf48))⟩, (by (try dsimp only) <;> first | omega | ((try simp (disch := omega) only [w32_of, w64_of, w8_of]) <;> first | omega | (split <;> omega) | (refine And.intro ?_ ?_ <;> split <;> omega)) | omega)⟩)
    · try simp (disch := omega) only [w32_of, w64_of, w8_of, decide_eq_true_eq, decide_eq_false_iff_not, Bool.not_eq_true] at c11
      have c50 := iiA_plans (s := into_0) hσ_7 (by first | assumption | decide | omega) 0
      have c51 := iiA_points (s := into_0) hσ_7 (by first | assumption | decide | omega) 0
      exact wp_some (x_inr ⟨hσ_7, frσ_7, (by (try dsimp only) <;> (exact hfl)), (by (try dsimp only) <;> first | omega | ((try simp (disch := omega) only [w32_of, w64_of, w8_of]) <;> first | omega | (split <;> omega) | (refine And.intro ?_ ?_ <;> split <;> omega)) | omega)⟩)
  rintro ⟨i_52, σ_53⟩ _ y53
  try dsimp only at y53 ⊢
  obtain ⟨hσ_53, frσ_53, hf53, g52⟩ := y53
  have c54 := ii_kP_triangleCount hσ_53 0
  have c55 := FC_at frσ_53 (c := kP_triangleCount) (by first | decide | (rcases hE with rfl | rfl | rfl <;> decide)) 0
  exact wp_some ⟨hσ_53, frσ_53, (by (try dsimp only) <;> first | omega | ((try simp (disch := omega) only [w32_of, w64_of, w8_of]) <;> first | omega | (split <;> omega) | (refine And.intro ?_ ?_ <;> split <;> omega)) | omega), (by (try dsimp only) <;> (exact Or.inr ⟨by assumption, hf53⟩))⟩
theorem s_P_thin {σ : SG} {shape_0 : Nat} {into_0 : Nat} {distance_0 : Int} (hσ : II σ) (hs_shape_0 : isS shape_0) (hs_into_0 : isS into_0) (w0 : SHa σ shape_0) (w1 : ¬ into_0 = shape_0) : wp_ (fP_thin σ shape_0 into_0 distance_0) (fun zz_ => II zz_.2 ∧ FC [kP_stack, kP_stays] [into_0] σ zz_.2 ∧ (SHa zz_.2 into_0)) := by
  unfold fP_thin
  have hpl := iiA_plans hσ hs_shape_0 0
  have hpt := iiA_points hσ hs_shape_0 0
  refine wp_bd (v_clearA (σ := σ) (this_0 := into_0) hσ (by first | assumption | decide | omega)) ?_
  rintro σ_2 - ⟨hσ_2, flσ_2, hc1, hc2⟩
  have frσ_2 : FC [kP_stack, kP_stays] [into_0] σ σ_2 := FC_le flσ_2 (by first | decide | (rcases hE with rfl | rfl | rfl <;> decide)) (by simp)
  have c1 := iiA_plans (s := into_0) hσ_2 (by first | assumption | decide | omega) 0
  try simp (disch := omega) only [w32_of, w64_of, w8_of] at hc1
  have c2 := iiA_points (s := into_0) hσ_2 (by first | assumption | decide | omega) 0
  try simp (disch := omega) only [w32_of, w64_of, w8_of] at hc2
  refine wp_bd (P := fun rr_ => II rr_.2.2 ∧ FC [kP_stack, kP_stays] [into_0] σ rr_.2.2 ∧ (rr_.2.2 (kA_plans into_0) 0 = rr_.2.1) ∧ (∃ m, FL (rr_.2.2 (kA_plan into_0)) m 0 (rr_.2.2 (kA_plans into_0) 0) (rr_.2.2 (kA_points into_0) 0))) ?_ ?_
  · refine wp_whl (fun ss_ => II ss_.2.2 ∧ FC [kP_stack, kP_stays] [into_0] σ ss_.2.2 ∧ (FLa σ shape_0 ss_.2.1 ss_.1) ∧ (ss_.2.2 (kA_plans into_0) 0 = ss_.2.1) ∧ (ss_.2.2 (kA_points into_0) 0 ≤ ss_.1) ∧ (∃ m, FL (ss_.2.2 (kA_plan into_0)) m 0 ss_.2.1 (ss_.2.2 (kA_points into_0) 0))) (fun ss_ => (2048 - ss_.2.1).toNat) ⟨hσ_2, frσ_2, (by (try dsimp only) <;> (first | assumption | exact FLa_0 w0 | (rw [hbh, hfe]; exact hn))), (by (try dsimp only) <;> (first | exact hc1 | (rw [hbh]; exact hq59.2))), (by (try dsimp only) <;> first | omega | ((try simp (disch := omega) only [w32_of, w64_of, w8_of]) <;> first | omega | (split <;> omega) | (refine And.intro ?_ ?_ <;> split <;> omega)) | omega), (by (try dsimp only) <;> (first | exact ⟨0, by rw [hc2]; exact ⟨rfl, rfl⟩⟩ | (rw [hbh, ← hq59.2]; exact hq59.1)))⟩ ?_
    rintro ⟨from_3, at_4, σ_5⟩ y4
    try dsimp only at y4 ⊢
    obtain ⟨hσ_5, frσ_5, gw, hpa, g3, hfl⟩ := y4
    have hle := FLa_le gw
    have c6 := w32_rng (at_4 + 1)
    have c7 := iiA_plans (s := shape_0) hσ_5 (by first | assumption | decide | omega) 0
    have c8 := congrFun (FC_plans (t := shape_0) frσ_5 (by first | assumption | decide | omega) (NS_1 (by first | assumption | decide | omega) (by first | assumption | decide | omega))) 0
    have c9 := iiA_plans (s := shape_0) hσ (by first | assumption | decide | omega) 0
    have c10 := w32_rng (σ_5 (kA_plans shape_0) 0)
    refine wp_if (fun c5 => ?_) (fun c5 => ?_)
    · try simp (disch := omega) only [w32_of, w64_of, w8_of, decide_eq_true_eq, decide_eq_false_iff_not, Bool.not_eq_true] at c5
      obtain ⟨he, hn, h2, h3, h4, h5, h6⟩ := FLa_hd hσ hs_shape_0 gw (by omega)
      have hat : at_4 ≤ 2046 := by omega
      have hat0 : 0 ≤ at_4 := by omega
      obtain ⟨ho, -, -, -⟩ := id he
      have hRe := rS_end ho
      have c11 := w32_rng at_4
      refine wp_rdI (by (try dsimp only) <;> first | omega | ((try simp (disch := omega) only [w32_of, w64_of, w8_of]) <;> first | omega | (split <;> omega) | (refine And.intro ?_ ?_ <;> split <;> omega)) | omega) (by (try dsimp only) <;> first | omega | ((try simp (disch := omega) only [w32_of, w64_of, w8_of]) <;> first | omega | (split <;> omega) | (refine And.intro ?_ ?_ <;> split <;> omega)) | omega) (fun x_14 e_x_14 => ?_)
      rw [FC_plan (t := shape_0) frσ_5 (by first | assumption | decide | omega) (NS_1 (by first | assumption | decide | omega) (by first | assumption | decide | omega))] at e_x_14
      try simp (disch := omega) only [w32_of, w64_of, w8_of] at e_x_14
      have c12 := congrFun (FC_plan (t := shape_0) frσ_5 (by first | assumption | decide | omega) (NS_1 (by first | assumption | decide | omega) (by first | assumption | decide | omega))) at_4
      refine wp_rdI (by (try dsimp only) <;> first | omega | ((try simp (disch := omega) only [w32_of, w64_of, w8_of]) <;> first | omega | (split <;> omega) | (refine And.intro ?_ ?_ <;> split <;> omega)) | omega) (by (try dsimp only) <;> first | omega | ((try simp (disch := omega) only [w32_of, w64_of, w8_of]) <;> first | omega | (split <;> omega) | (refine And.intro ?_ ?_ <;> split <;> omega)) | omega) (fun x_16 e_x_16 => ?_)
      rw [FC_plan (t := shape_0) frσ_5 (by first | assumption | decide | omega) (NS_1 (by first | assumption | decide | omega) (by first | assumption | decide | omega))] at e_x_16
      try simp (disch := omega) only [w32_of, w64_of, w8_of] at e_x_16
      have c13 := congrFun (FC_plan (t := shape_0) frσ_5 (by first | assumption | decide | omega) (NS_1 (by first | assumption | decide | omega) (by first | assumption | decide | omega))) (at_4 + 1)
      refine wp_bd (v_addShape (σ := σ_5) (this_0 := into_0) (kind_0 := x_14) (parts_0 := x_16) hσ_5 (by first | assumption | decide | omega)) ?_
      rintro ⟨x_20, σ_19⟩ - y14
      try dsimp only at y14 ⊢
      obtain ⟨hσ_19, flσ_19, a1, a2, a3, a4, a5, a6⟩ := y14
      have frσ_19 : FC [kP_stack, kP_stays] [into_0] σ σ_19 := FC_tr frσ_5 flσ_19 (by first | decide | (rcases hE with rfl | rfl | rfl <;> decide)) (by first | decide | (rcases hE with rfl | rfl | rfl <;> decide)) (by simp) (by simp)
      have c15 := iiA_plans (s := into_0) hσ_5 (by first | assumption | decide | omega) 0
      try simp (disch := omega) only [w32_of, w64_of, w8_of] at a1
      try simp (disch := omega) only [w32_of, w64_of, w8_of] at a2
      have c16 := iiA_plans (s := into_0) hσ_19 (by first | assumption | decide | omega) 0
      try simp (disch := omega) only [w32_of, w64_of, w8_of] at a3
      try simp (disch := omega) only [w32_of, w64_of, w8_of] at a4
      try simp (disch := omega) only [w32_of, w64_of, w8_of] at a5
      try simp (disch := omega) only [w32_of, w64_of, w8_of] at a6
      have g9 := a3 (a1.mpr (by rw [hpa]; exact hat))
      rw [hpa] at g9
      have gq := TQ_0 (pm := σ_19 (kA_plan into_0)) hfl hat0 g9.2.1 g9.2.2.1 (fun i i0 i1 => g9.2.2.2 i i0 i1)
      refine wp_bd (P := fun rr_ => II rr_.2.2 ∧ FC [kP_stack, kP_stays] [into_0] σ rr_.2.2 ∧ (rr_.1 = from_3 + eP (σ (kA_plan shape_0)) at_4) ∧ (rr_.2.2 (kA_points into_0) 0 ≤ rr_.1) ∧ ((∃ m, FL (rr_.2.2 (kA_plan into_0)) m 0 (rr_.2.2 (kA_plans into_0) 0) (rr_.2.2 (kA_points into_0) 0)) ∧ rr_.2.2 (kA_plans into_0) 0 = at_4 + eL (σ (kA_plan shape_0)) at_4)) ?_ ?_
      · have c17 := iiA_points (s := into_0) hσ_19 (by first | assumption | decide | omega) 0
        have c18 := iiA_points (s := into_0) hσ_5 (by first | assumption | decide | omega) 0
        refine wp_whl (fun ss_ => II ss_.2.2 ∧ FC [kP_stack, kP_stays] [into_0] σ ss_.2.2 ∧ (0 ≤ ss_.2.1 ∧ ss_.2.1 ≤ rN (σ (kA_plan shape_0)) at_4) ∧ (ss_.1 = from_3 + rS (σ (kA_plan shape_0)) at_4 ss_.2.1) ∧ (ss_.2.2 (kA_points into_0) 0 ≤ ss_.1) ∧ (TQ (ss_.2.2 (kA_plan into_0)) (ss_.2.2 (kA_plans into_0) 0) (ss_.2.2 (kA_points into_0) 0) at_4 x_14 x_16 (σ_5 (kA_points into_0) 0) ss_.2.1)) (fun ss_ => (rN (σ (kA_plan shape_0)) at_4 - ss_.2.1).toNat) ⟨hσ_19, frσ_19, (by (try dsimp only) <;> first | omega | ((try simp (disch := omega) only [w32_of, w64_of, w8_of]) <;> first | omega | (split <;> omega) | (refine And.intro ?_ ?_ <;> split <;> omega)) | omega), (by (try dsimp only) <;> (first | (rw [rS_0]; omega) | omega)), (by (try dsimp only) <;> (first | omega | (have q1 := congrFun a4 0; omega))), (by (try dsimp only) <;> (first | (rw [a4, g9.1]; exact gq) | exact hq53))⟩ ?_
        rintro ⟨from_21, row_22, σ_23⟩ y21
        try dsimp only at y21 ⊢
        obtain ⟨hσ_23, frσ_23, g19, hfr, g20, hq23⟩ := y21
        refine wp_bd (s_A_rows (σ := σ_23) (this_0 := shape_0) (at_0 := at_4) hσ_23 (by first | assumption | decide | omega) (ENa_f frσ_23 (by first | assumption | decide | omega) (NS_1 (by first | assumption | decide | omega) (by first | assumption | decide | omega)) he)) ?_
        rintro x_32 - ⟨g22, g23⟩
        try simp only [FC_plan (t := shape_0) frσ_23 (by first | assumption | decide | omega) (NS_1 (by first | assumption | decide | omega) (by first | assumption | decide | omega))] at g22
        try simp (disch := omega) only [w32_of, w64_of, w8_of] at g22
        try simp (disch := omega) only [w32_of, w64_of, w8_of] at g23
        have c25 := w32_rng row_22
        have c26 := w32_rng x_32
        refine wp_if (fun c24 => ?_) (fun c24 => ?_)
        · try simp (disch := omega) only [w32_of, w64_of, w8_of, decide_eq_true_eq, decide_eq_false_iff_not, Bool.not_eq_true] at c24
          have hg := rS_go ho (show 0 ≤ row_22 by omega) (by omega)
          refine wp_bd (s_A_rowLength (σ := σ_23) (this_0 := shape_0) (at_0 := at_4) (row_0 := row_22) hσ_23 (by first | assumption | decide | omega) (ENa_f frσ_23 (by first | assumption | decide | omega) (NS_1 (by first | assumption | decide | omega) (by first | assumption | decide | omega)) he) (by (try simp only [FC_plan (t := shape_0) frσ_23 (by first | assumption | decide | omega) (NS_1 (by first | assumption | decide | omega) (by first | assumption | decide | omega))]) <;> ((try dsimp only) <;> first | omega | ((try simp (disch := omega) only [w32_of, w64_of, w8_of]) <;> first | omega | (split <;> omega) | (refine And.intro ?_ ?_ <;> split <;> omega)) | omega))) ?_
          rintro x_35 - ⟨g27, g28⟩
          try simp only [FC_plan (t := shape_0) frσ_23 (by first | assumption | decide | omega) (NS_1 (by first | assumption | decide | omega) (by first | assumption | decide | omega))] at g27
          try simp (disch := omega) only [w32_of, w64_of, w8_of] at g27
          try simp (disch := omega) only [w32_of, w64_of, w8_of] at g28
          refine wp_bd (s_P_thinRow (σ := σ_23) (shape_0 := shape_0) (into_0 := into_0) (from_0 := from_21) (length_0 := x_35) (distance_0 := distance_0) hσ_23 (by first | assumption | decide | omega) (by first | assumption | decide | omega) (by (try dsimp only) <;> first | omega | ((try simp (disch := omega) only [w32_of, w64_of, w8_of]) <;> first | omega | (split <;> omega) | (refine And.intro ?_ ?_ <;> split <;> omega)) | omega) (by (try dsimp only) <;> first | omega | ((try simp (disch := omega) only [w32_of, w64_of, w8_of]) <;> first | omega | (split <;> omega) | (refine And.intro ?_ ?_ <;> split <;> omega)) | omega)) ?_
          rintro ⟨x_38, σ_37⟩ - y29
          try dsimp only at y29 ⊢
          obtain ⟨hσ_37, flσ_37, t1, t2, t3⟩ := y29
          have frσ_37 : FC [kP_stack, kP_stays] [into_0] σ σ_37 := FC_tr frσ_23 flσ_37 (by first | decide | (rcases hE with rfl | rfl | rfl <;> decide)) (by first | decide | (rcases hE with rfl | rfl | rfl <;> decide)) (by simp) (by simp)
          try simp (disch := omega) only [w32_of, w64_of, w8_of] at t1
          have c30 := iiA_points (s := into_0) hσ_37 (by first | assumption | decide | omega) 0
          have c31 := iiA_points (s := into_0) hσ_23 (by first | assumption | decide | omega) 0
          try simp (disch := omega) only [w32_of, w64_of, w8_of] at t2
          try simp (disch := omega) only [w32_of, w64_of, w8_of] at t3
          have hq0 := TQ_n hq23
          have hp37 := congrFun t3.1 0
          refine wp_bd (P := fun rr_ => II rr_ ∧ FC [kP_stack, kP_stays] [into_0] σ rr_ ∧ (rr_ (kA_points into_0) 0 ≤ from_21 + x_35) ∧ (TQ (rr_ (kA_plan into_0)) (rr_ (kA_plans into_0) 0) (rr_ (kA_points into_0) 0) at_4 x_14 x_16 (σ_5 (kA_points into_0) 0) (row_22 + 1))) ?_ ?_
          · refine wp_rdI (by (try dsimp only) <;> first | omega | ((try simp (disch := omega) only [w32_of, w64_of, w8_of]) <;> first | omega | (split <;> omega) | (refine And.intro ?_ ?_ <;> split <;> omega)) | omega) (by (try dsimp only) <;> first | omega | ((try simp (disch := omega) only [w32_of, w64_of, w8_of]) <;> first | omega | (split <;> omega) | (refine And.intro ?_ ?_ <;> split <;> omega)) | omega) (fun x_43 e_x_43 => ?_)
            rw [FC_plan (t := shape_0) frσ_37 (by first | assumption | decide | omega) (NS_1 (by first | assumption | decide | omega) (by first | assumption | decide | omega))] at e_x_43
            try simp (disch := omega) only [w32_of, w64_of, w8_of] at e_x_43
            have c32 := congrFun (FC_plan (t := shape_0) flσ_37 (by first | assumption | decide | omega) (NS_1 (by first | assumption | decide | omega) (by first | assumption | decide | omega))) at_4
            have c33 := congrFun (FC_plan (t := shape_0) frσ_23 (by first | assumption | decide | omega) (NS_1 (by first | assumption | decide | omega) (by first | assumption | decide | omega))) at_4
            have c35 := w32_rng x_43
            refine wp_if (fun c34 => ?_) (fun c34 => ?_)
            · try simp (disch := omega) only [w32_of, w64_of, w8_of, decide_eq_true_eq, decide_eq_false_iff_not, Bool.not_eq_true] at c34
              refine wp_bd (v_addRing (σ := σ_37) (this_0 := into_0) (length_0 := x_38) hσ_37 (by first | assumption | decide | omega)) ?_
              rintro ⟨x_48, σ_47⟩ - y36
              try dsimp only at y36 ⊢
              obtain ⟨hσ_47, flσ_47, d1, d2, d3, d4, d5, d6⟩ := y36
              have frσ_47 : FC [kP_stack, kP_stays] [into_0] σ σ_47 := FC_tr frσ_37 flσ_47 (by first | decide | (rcases hE with rfl | rfl | rfl <;> decide)) (by first | decide | (rcases hE with rfl | rfl | rfl <;> decide)) (by simp) (by simp)
              have c37 := iiA_plans (s := into_0) hσ_37 (by first | assumption | decide | omega) 0
              try simp (disch := omega) only [w32_of, w64_of, w8_of] at d1
              try simp (disch := omega) only [w32_of, w64_of, w8_of] at d2
              have c38 := iiA_plans (s := into_0) hσ_47 (by first | assumption | decide | omega) 0
              try simp (disch := omega) only [w32_of, w64_of, w8_of] at d3
              try simp (disch := omega) only [w32_of, w64_of, w8_of] at d4
              try simp (disch := omega) only [w32_of, w64_of, w8_of] at d5
              try simp (disch := omega) only [w32_of, w64_of, w8_of] at d6
              have g8 := d3 (d1.mpr (by omega))
              have c39 := iiA_points (s := into_0) hσ_47 (by first | assumption | decide | omega) 0
              exact wp_some ⟨hσ_47, frσ_47, (by (try dsimp only) <;> (first | omega | (have q1 := congrFun d4 0; omega))), (by (try dsimp only) <;> (first | exact TQ_rS hq23 (by omega) t1.1 (by rw [g8.1, congrFun t3.1 0]) (by rw [congrFun d4 0]; exact t2) (by rw [← congrFun t3.1 0]; exact g8.2.1) (fun i hi => by rw [g8.2.2 i (by rw [congrFun t3.1 0]; exact hi), t3.2]) | exact TQ_oS hq23 (by omega) (by omega) ⟨t1.1, by have q3 : rL (σ (kA_plan shape_0)) at_4 row_22 = σ (kA_plan shape_0) (at_4 + 1) := (by unfold rL; rw [if_neg (by omega)]); omega⟩ (by rw [eσ_50, sg_nc (ncA_plans_plan _), congrFun t3.1 0]) (by rw [eσ_50, sg_nc (ncA_points_plan _)]; exact t2) (by rw [eσ_50, congrFun t3.1 0, sg_at]) (fun i hi => by rw [eσ_50, congrFun t3.1 0, sg_ni hi, t3.2])))⟩
            · try simp (disch := omega) only [w32_of, w64_of, w8_of, decide_eq_true_eq, decide_eq_false_iff_not, Bool.not_eq_true] at c34
              have c40 := iiA_plans (s := into_0) hσ_37 (by first | assumption | decide | omega) 0
              have c41 := w32_rng ((σ_37 (kA_plans into_0) 0) - 1)
              refine wp_waN hσ_37 (bA_plan (s := into_0) (by first | assumption | decide | omega)) (by (try dsimp only) <;> first | omega | ((try simp (disch := omega) only [w32_of, w64_of, w8_of]) <;> first | omega | (split <;> omega) | (refine And.intro ?_ ?_ <;> split <;> omega)) | omega) (by (try dsimp only) <;> first | omega | ((try simp (disch := omega) only [w32_of, w64_of, w8_of]) <;> first | omega | (split <;> omega) | (refine And.intro ?_ ?_ <;> split <;> omega)) | omega) (fun σ_50 hσ_50 eσ_50 => ?_)
              try simp (disch := omega) only [w32_of, w64_of, w8_of] at eσ_50
              have flσ_50 := FS_plan eσ_50 (by first | assumption | decide | omega)
              have frσ_50 : FC [kP_stack, kP_stays] [into_0] σ σ_50 := FC_tr frσ_37 flσ_50 (by first | decide | (rcases hE with rfl | rfl | rfl <;> decide)) (by first | decide | (rcases hE with rfl | rfl | rfl <;> decide)) (by simp) (by simp)
              have c42 := iiA_points (s := into_0) hσ_50 (by first | assumption | decide | omega) 0
              have c43 := (congrFun (congrFun eσ_50 (kA_points into_0)) 0).trans (sg_nc (ncA_points_plan _))
              have c44 := iiA_plans (s := into_0) hσ_50 (by first | assumption | decide | omega) 0
              have c45 := (congrFun (congrFun eσ_50 (kA_plans into_0)) 0).trans (sg_nc (ncA_plans_plan _))
              exact wp_some ⟨hσ_50, frσ_50, (by (try dsimp only) <;> (first | omega | (have q1 := congrFun d4 0; omega))), (by (try dsimp only) <;> (first | exact TQ_rS hq23 (by omega) t1.1 (by rw [g8.1, congrFun t3.1 0]) (by rw [congrFun d4 0]; exact t2) (by rw [← congrFun t3.1 0]; exact g8.2.1) (fun i hi => by rw [g8.2.2 i (by rw [congrFun t3.1 0]; exact hi), t3.2]) | exact TQ_oS hq23 (by omega) (by omega) ⟨t1.1, by have q3 : rL (σ (kA_plan shape_0)) at_4 row_22 = σ (kA_plan shape_0) (at_4 + 1) := (by unfold rL; rw [if_neg (by omega)]); omega⟩ (by rw [eσ_50, sg_nc (ncA_plans_plan _), congrFun t3.1 0]) (by rw [eσ_50, sg_nc (ncA_points_plan _)]; exact t2) (by rw [eσ_50, congrFun t3.1 0, sg_at]) (fun i hi => by rw [eσ_50, congrFun t3.1 0, sg_ni hi, t3.2])))⟩
          rintro σ_53 _ ⟨hσ_53, frσ_53, g46, hq53⟩
          have c47 := iiA_points (s := into_0) hσ_53 (by first | assumption | decide | omega) 0
          have c48 := iiA_plans (s := into_0) hσ_53 (by first | assumption | decide | omega) 0
          exact wp_some (x_inl ⟨⟨hσ_53, frσ_53, (by (try dsimp only) <;> first | omega | ((try simp (disch := omega) only [w32_of, w64_of, w8_of]) <;> first | omega | (split <;> omega) | (refine And.intro ?_ ?_ <;> split <;> omega)) | omega), (by (try dsimp only) <;> (first | (rw [rS_0]; omega) | omega)), (by (try dsimp only) <;> (first | omega | (have q1 := congrFun a4 0; omega))), (by (try dsimp only) <;> (first | (rw [a4, g9.1]; exact gq) | exact hq53))⟩, (by (try dsimp only) <;> first | omega | ((try simp (disch := omega) only [w32_of, w64_of, w8_of]) <;> first | omega | (split <;> omega) | (refine And.intro ?_ ?_ <;> split <;> omega)) | omega)⟩)
        · try simp (disch := omega) only [w32_of, w64_of, w8_of, decide_eq_true_eq, decide_eq_false_iff_not, Bool.not_eq_true] at c24
          have hz : row_22 = rN (σ (kA_plan shape_0)) at_4 := by omega
          have hte := TQ_end hq23 ho e_x_14.symm e_x_16.symm hz
          rw [hz, hRe.1] at hfr
          have c49 := iiA_points (s := into_0) hσ_23 (by first | assumption | decide | omega) 0
          have c50 := iiA_plans (s := into_0) hσ_23 (by first | assumption | decide | omega) 0
          exact wp_some (x_inr ⟨hσ_23, frσ_23, (by (try dsimp only) <;> (omega)), (by (try dsimp only) <;> first | omega | ((try simp (disch := omega) only [w32_of, w64_of, w8_of]) <;> first | omega | (split <;> omega) | (refine And.intro ?_ ?_ <;> split <;> omega)) | omega), (by (try dsimp only) <;> (exact hte))⟩)
      rintro ⟨from_57, row_58, σ_59⟩ _ y52
      try dsimp only at y52 ⊢
      obtain ⟨hσ_59, frσ_59, hfe, g51, hq59⟩ := y52
      refine wp_bd (s_A_behind (σ := σ_59) (this_0 := shape_0) (at_0 := at_4) hσ_59 (by first | assumption | decide | omega) (ENa_f frσ_59 (by first | assumption | decide | omega) (NS_1 (by first | assumption | decide | omega) (by first | assumption | decide | omega)) he)) ?_
      rintro x_61 - hbh
      try simp only [FC_plan (t := shape_0) frσ_59 (by first | assumption | decide | omega) (NS_1 (by first | assumption | decide | omega) (by first | assumption | decide | omega))] at hbh
      try simp (disch := omega) only [w32_of, w64_of, w8_of] at hbh
      have c53 := iiA_plans (s := into_0) hσ_59 (by first | assumption | decide | omega) 0
      have c54 := iiA_points (s := into_0) hσ_59 (by first | assumption | decide | omega) 0
      exact wp_some (x_inl ⟨⟨hσ_59, frσ_59, (by (try dsimp only) <;> (first | assumption | exact FLa_0 w0 | (rw [hbh, hfe]; exact hn))), (by (try dsimp only) <;> (first | exact hc1 | (rw [hbh]; exact hq59.2))), (by (try dsimp only) <;> first | omega | ((try simp (disch := omega) only [w32_of, w64_of, w8_of]) <;> first | omega | (split <;> omega) | (refine And.intro ?_ ?_ <;> split <;> omega)) | omega), (by (try dsimp only) <;> (first | exact ⟨0, by rw [hc2]; exact ⟨rfl, rfl⟩⟩ | (rw [hbh, ← hq59.2]; exact hq59.1)))⟩, (by (try dsimp only) <;> first | omega | ((try simp (disch := omega) only [w32_of, w64_of, w8_of]) <;> first | omega | (split <;> omega) | (refine And.intro ?_ ?_ <;> split <;> omega)) | omega)⟩)
    · try simp (disch := omega) only [w32_of, w64_of, w8_of, decide_eq_true_eq, decide_eq_false_iff_not, Bool.not_eq_true] at c5
      have c55 := iiA_plans (s := into_0) hσ_5 (by first | assumption | decide | omega) 0
      have c56 := iiA_points (s := into_0) hσ_5 (by first | assumption | decide | omega) 0
      exact wp_some (x_inr ⟨hσ_5, frσ_5, (by (try dsimp only) <;> (exact hpa)), (by (try dsimp only) <;> (rw [hpa]; exact hfl))⟩)
  rintro ⟨from_65, at_66, σ_67⟩ _ y58
  try dsimp only at y58 ⊢
  obtain ⟨hσ_67, frσ_67, g57, hf67⟩ := y58
  exact wp_some ⟨hσ_67, frσ_67, (by (try dsimp only) <;> (exact SHa_fl hf67))⟩
