theorem s_N_addHot {σ : SG} {x_0 : Int} {y_0 : Int} (hσ : II σ) (w0 : KYs σ) (w1 : -1000000000 ≤ x_0 ∧ x_0 ≤ 1000000000) (w2 : -1000000000 ≤ y_0 ∧ y_0 ≤ 1000000000) : wp_ (fN_addHot σ x_0 y_0) (fun zz_ => II zz_.2 ∧ FC [kN_keyCount, kN_keys] [] σ zz_.2 ∧ (KYs zz_.2)) := by
  unfold fN_addHot
  have c2 := ii_kN_keyCount hσ 0
  have c3 := w32_rng (σ kN_keyCount 0)
  refine wp_if (fun c1 => ?_) (fun c1 => ?_)
  · try simp (disch := omega) only [w32_of, w64_of, w8_of, decide_eq_true_eq, decide_eq_false_iff_not, Bool.not_eq_true] at c1
    refine wp_bd (v_sortOutKeys (σ := σ) hσ w0) ?_
    rintro ⟨x_15, σ_14⟩ - y5
    try dsimp only at y5 ⊢
    obtain ⟨hσ_14, flσ_14, hks, g4⟩ := y5
    have frσ_14 : FC [kN_keyCount, kN_keys] [] σ σ_14 := FC_le flσ_14 (by first | decide | (rcases hE with rfl | rfl | rfl <;> decide)) (by simp)
    try simp (disch := omega) only [w32_of, w64_of, w8_of] at hks
    have c6 := ii_kN_keyCount hσ_14 0
    try simp (disch := omega) only [w32_of, w64_of, w8_of] at g4
    refine wp_if (fun c7 => ?_) (fun c7 => ?_)
    · have k8 := g4 c7
      try simp (disch := omega) only [w32_of, w64_of, w8_of] at k8
      try simp (disch := omega) only [w32_of, w64_of, w8_of, decide_eq_true_eq, decide_eq_false_iff_not, Bool.not_eq_true] at c7
      have c9 := w32_rng (σ_14 kN_keyCount 0)
      refine wp_waN hσ_14 b_kN_keys (by (try dsimp only) <;> first | assumption | omega | ((try simp (disch := omega) only [w32_of, w64_of, w8_of]) <;> first | assumption | omega | (split <;> omega) | (refine And.intro ?_ ?_ <;> split <;> omega)) | omega) (by (try dsimp only) <;> first | assumption | omega | ((try simp (disch := omega) only [w32_of, w64_of, w8_of]) <;> first | assumption | omega | (split <;> omega) | (refine And.intro ?_ ?_ <;> split <;> omega)) | omega) (fun σ_17 hσ_17 eσ_17 => ?_)
      try simp (disch := omega) only [w32_of, w64_of, w8_of] at eσ_17
      have flσ_17 := FC_sg eσ_17 (by first | decide | (rcases hE with rfl | rfl | rfl <;> decide))
      have frσ_17 : FC [kN_keyCount, kN_keys] [] σ σ_17 := FC_tr frσ_14 flσ_17 (by first | decide | (rcases hE with rfl | rfl | rfl <;> decide)) (by first | decide | (rcases hE with rfl | rfl | rfl <;> decide)) (by simp) (by simp)
      have c10 := ii_kN_keyCount hσ_17 0
      have c11 := FC_at flσ_17 (c := kN_keyCount) (by first | decide | (rcases hE with rfl | rfl | rfl <;> decide)) 0
      refine wp_wfI hσ_17 b_kN_keyCount (by (try dsimp only) <;> first | assumption | omega | ((try simp (disch := omega) only [w32_of, w64_of, w8_of]) <;> first | assumption | omega | (split <;> omega) | (refine And.intro ?_ ?_ <;> split <;> omega)) | omega) (fun σ_19 hσ_19 eσ_19 => ?_)
      try simp (disch := omega) only [w32_of, w64_of, w8_of] at eσ_19
      have flσ_19 := FC_sg eσ_19 (by first | decide | (rcases hE with rfl | rfl | rfl <;> decide))
      have frσ_19 : FC [kN_keyCount, kN_keys] [] σ σ_19 := FC_tr frσ_17 flσ_19 (by first | decide | (rcases hE with rfl | rfl | rfl <;> decide)) (by first | decide | (rcases hE with rfl | rfl | rfl <;> decide)) (by simp) (by simp)
      exact wp_some ⟨hσ_19, frσ_19, (by (try dsimp only) <;> (first | exact KYs_add eσ_17 eσ_19 hks (okey_of w1 w2) | exact hks | exact KYs_add eσ_20 eσ_22 w0 (okey_of w1 w2)))⟩
    · try simp (disch := omega) only [w32_of, w64_of, w8_of, decide_eq_true_eq, decide_eq_false_iff_not, Bool.not_eq_true] at c7
      exact wp_some ⟨hσ_14, frσ_14, (by (try dsimp only) <;> (first | exact KYs_add eσ_17 eσ_19 hks (okey_of w1 w2) | exact hks | exact KYs_add eσ_20 eσ_22 w0 (okey_of w1 w2)))⟩
  · try simp (disch := omega) only [w32_of, w64_of, w8_of, decide_eq_true_eq, decide_eq_false_iff_not, Bool.not_eq_true] at c1
    refine wp_waN hσ b_kN_keys (by (try dsimp only) <;> first | assumption | omega | ((try simp (disch := omega) only [w32_of, w64_of, w8_of]) <;> first | assumption | omega | (split <;> omega) | (refine And.intro ?_ ?_ <;> split <;> omega)) | omega) (by (try dsimp only) <;> first | assumption | omega | ((try simp (disch := omega) only [w32_of, w64_of, w8_of]) <;> first | assumption | omega | (split <;> omega) | (refine And.intro ?_ ?_ <;> split <;> omega)) | omega) (fun σ_20 hσ_20 eσ_20 => ?_)
    try simp (disch := omega) only [w32_of, w64_of, w8_of] at eσ_20
    have flσ_20 := FC_sg eσ_20 (by first | decide | (rcases hE with rfl | rfl | rfl <;> decide))
    have frσ_20 : FC [kN_keyCount, kN_keys] [] σ σ_20 := FC_le flσ_20 (by first | decide | (rcases hE with rfl | rfl | rfl <;> decide)) (by simp)
    have c13 := ii_kN_keyCount hσ_20 0
    have c14 := FC_at flσ_20 (c := kN_keyCount) (by first | decide | (rcases hE with rfl | rfl | rfl <;> decide)) 0
    refine wp_wfI hσ_20 b_kN_keyCount (by (try dsimp only) <;> first | assumption | omega | ((try simp (disch := omega) only [w32_of, w64_of, w8_of]) <;> first | assumption | omega | (split <;> omega) | (refine And.intro ?_ ?_ <;> split <;> omega)) | omega) (fun σ_22 hσ_22 eσ_22 => ?_)
    try simp (disch := omega) only [w32_of, w64_of, w8_of] at eσ_22
    have flσ_22 := FC_sg eσ_22 (by first | decide | (rcases hE with rfl | rfl | rfl <;> decide))
    have frσ_22 : FC [kN_keyCount, kN_keys] [] σ σ_22 := FC_tr frσ_20 flσ_22 (by first | decide | (rcases hE with rfl | rfl | rfl <;> decide)) (by first | decide | (rcases hE with rfl | rfl | rfl <;> decide)) (by simp) (by simp)
    exact wp_some ⟨hσ_22, frσ_22, (by (try dsimp only) <;> (first | exact KYs_add eσ_17 eσ_19 hks (okey_of w1 w2) | exact hks | exact KYs_add eσ_20 eσ_22 w0 (okey_of w1 w2)))⟩
theorem s_N_addCrossing {σ : SG} {i_0 : Int} {j_0 : Int} (hσ : II σ) (w0 : KYs σ) (w1 : SNc σ) (w2 : 0 ≤ w32 i_0 ∧ w32 i_0 < σ (kE_size 194) 0) (w3 : 0 ≤ w32 j_0 ∧ w32 j_0 < σ (kE_size 194) 0) (w4 : PCE σ 194 (w32 i_0) (w32 j_0)) : wp_ (fN_addCrossing σ i_0 j_0) (fun zz_ => II zz_.2 ∧ FC [kN_keyCount, kN_keys] [] σ zz_.2 ∧ (KYs zz_.2)) := by
  unfold fN_addCrossing
  have c1 := iiE_size (s := 194) hσ (by decide) 0
  have n1 := w1 (w32 i_0) (by omega) (by omega)
  have n2 := w1 (w32 j_0) (by omega) (by omega)
  have bz := iiE_size (s := 194) hσ (by decide) 0
  obtain ⟨sh, wh, s0, s1, s2, s3, se1, se2⟩ := PCE_sh w4.2 n1.1 n1.2.1 n1.2.2.1 n1.2.2.2 n2.1 n2.2.1 n2.2.2.1 n2.2.2.2
  have c2 := w32_rng i_0
  refine wp_rdI (by (try dsimp only) <;> first | assumption | omega | ((try simp (disch := omega) only [w32_of, w64_of, w8_of]) <;> first | assumption | omega | (split <;> omega) | (refine And.intro ?_ ?_ <;> split <;> omega)) | omega) (by (try dsimp only) <;> first | assumption | omega | ((try simp (disch := omega) only [w32_of, w64_of, w8_of]) <;> first | assumption | omega | (split <;> omega) | (refine And.intro ?_ ?_ <;> split <;> omega)) | omega) (fun x_1 e_x_1 => ?_)
  have b_x_1 : (-1000000000) ≤ x_1 ∧ x_1 ≤ 1000000000 := by rw [e_x_1]; exact iiE_bx (s := 194) hσ (by decide) _
  try simp (disch := omega) only [w32_of, w64_of, w8_of] at e_x_1
  have c3 : (-1000000000) ≤ σ 50432 i_0 ∧ σ 50432 i_0 ≤ 1000000000 := iiE_bx (s := 194) hσ (by decide) i_0
  refine wp_rdI (by (try dsimp only) <;> first | assumption | omega | ((try simp (disch := omega) only [w32_of, w64_of, w8_of]) <;> first | assumption | omega | (split <;> omega) | (refine And.intro ?_ ?_ <;> split <;> omega)) | omega) (by (try dsimp only) <;> first | assumption | omega | ((try simp (disch := omega) only [w32_of, w64_of, w8_of]) <;> first | assumption | omega | (split <;> omega) | (refine And.intro ?_ ?_ <;> split <;> omega)) | omega) (fun x_3 e_x_3 => ?_)
  have b_x_3 : (-1000000000) ≤ x_3 ∧ x_3 ≤ 1000000000 := by rw [e_x_3]; exact iiE_ax (s := 194) hσ (by decide) _
  try simp (disch := omega) only [w32_of, w64_of, w8_of] at e_x_3
  have c4 : (-1000000000) ≤ σ 49920 i_0 ∧ σ 49920 i_0 ≤ 1000000000 := iiE_ax (s := 194) hσ (by decide) i_0
  refine wp_rdI (by (try dsimp only) <;> first | assumption | omega | ((try simp (disch := omega) only [w32_of, w64_of, w8_of]) <;> first | assumption | omega | (split <;> omega) | (refine And.intro ?_ ?_ <;> split <;> omega)) | omega) (by (try dsimp only) <;> first | assumption | omega | ((try simp (disch := omega) only [w32_of, w64_of, w8_of]) <;> first | assumption | omega | (split <;> omega) | (refine And.intro ?_ ?_ <;> split <;> omega)) | omega) (fun x_5 e_x_5 => ?_)
  have b_x_5 : (-1000000000) ≤ x_5 ∧ x_5 ≤ 1000000000 := by rw [e_x_5]; exact iiE_by (s := 194) hσ (by decide) _
  try simp (disch := omega) only [w32_of, w64_of, w8_of] at e_x_5
  have c5 : (-1000000000) ≤ σ 50688 i_0 ∧ σ 50688 i_0 ≤ 1000000000 := iiE_by (s := 194) hσ (by decide) i_0
  refine wp_rdI (by (try dsimp only) <;> first | assumption | omega | ((try simp (disch := omega) only [w32_of, w64_of, w8_of]) <;> first | assumption | omega | (split <;> omega) | (refine And.intro ?_ ?_ <;> split <;> omega)) | omega) (by (try dsimp only) <;> first | assumption | omega | ((try simp (disch := omega) only [w32_of, w64_of, w8_of]) <;> first | assumption | omega | (split <;> omega) | (refine And.intro ?_ ?_ <;> split <;> omega)) | omega) (fun x_7 e_x_7 => ?_)
  have b_x_7 : (-1000000000) ≤ x_7 ∧ x_7 ≤ 1000000000 := by rw [e_x_7]; exact iiE_ay (s := 194) hσ (by decide) _
  try simp (disch := omega) only [w32_of, w64_of, w8_of] at e_x_7
  have c6 : (-1000000000) ≤ σ 50176 i_0 ∧ σ 50176 i_0 ≤ 1000000000 := iiE_ay (s := 194) hσ (by decide) i_0
  have c7 := w32_rng j_0
  refine wp_rdI (by (try dsimp only) <;> first | assumption | omega | ((try simp (disch := omega) only [w32_of, w64_of, w8_of]) <;> first | assumption | omega | (split <;> omega) | (refine And.intro ?_ ?_ <;> split <;> omega)) | omega) (by (try dsimp only) <;> first | assumption | omega | ((try simp (disch := omega) only [w32_of, w64_of, w8_of]) <;> first | assumption | omega | (split <;> omega) | (refine And.intro ?_ ?_ <;> split <;> omega)) | omega) (fun x_9 e_x_9 => ?_)
  have b_x_9 : (-1000000000) ≤ x_9 ∧ x_9 ≤ 1000000000 := by rw [e_x_9]; exact iiE_bx (s := 194) hσ (by decide) _
  try simp (disch := omega) only [w32_of, w64_of, w8_of] at e_x_9
  have c8 : (-1000000000) ≤ σ 50432 j_0 ∧ σ 50432 j_0 ≤ 1000000000 := iiE_bx (s := 194) hσ (by decide) j_0
  refine wp_rdI (by (try dsimp only) <;> first | assumption | omega | ((try simp (disch := omega) only [w32_of, w64_of, w8_of]) <;> first | assumption | omega | (split <;> omega) | (refine And.intro ?_ ?_ <;> split <;> omega)) | omega) (by (try dsimp only) <;> first | assumption | omega | ((try simp (disch := omega) only [w32_of, w64_of, w8_of]) <;> first | assumption | omega | (split <;> omega) | (refine And.intro ?_ ?_ <;> split <;> omega)) | omega) (fun x_11 e_x_11 => ?_)
  have b_x_11 : (-1000000000) ≤ x_11 ∧ x_11 ≤ 1000000000 := by rw [e_x_11]; exact iiE_ax (s := 194) hσ (by decide) _
  try simp (disch := omega) only [w32_of, w64_of, w8_of] at e_x_11
  have c9 : (-1000000000) ≤ σ 49920 j_0 ∧ σ 49920 j_0 ≤ 1000000000 := iiE_ax (s := 194) hσ (by decide) j_0
  refine wp_rdI (by (try dsimp only) <;> first | assumption | omega | ((try simp (disch := omega) only [w32_of, w64_of, w8_of]) <;> first | assumption | omega | (split <;> omega) | (refine And.intro ?_ ?_ <;> split <;> omega)) | omega) (by (try dsimp only) <;> first | assumption | omega | ((try simp (disch := omega) only [w32_of, w64_of, w8_of]) <;> first | assumption | omega | (split <;> omega) | (refine And.intro ?_ ?_ <;> split <;> omega)) | omega) (fun x_13 e_x_13 => ?_)
  have b_x_13 : (-1000000000) ≤ x_13 ∧ x_13 ≤ 1000000000 := by rw [e_x_13]; exact iiE_by (s := 194) hσ (by decide) _
  try simp (disch := omega) only [w32_of, w64_of, w8_of] at e_x_13
  have c10 : (-1000000000) ≤ σ 50688 j_0 ∧ σ 50688 j_0 ≤ 1000000000 := iiE_by (s := 194) hσ (by decide) j_0
  refine wp_rdI (by (try dsimp only) <;> first | assumption | omega | ((try simp (disch := omega) only [w32_of, w64_of, w8_of]) <;> first | assumption | omega | (split <;> omega) | (refine And.intro ?_ ?_ <;> split <;> omega)) | omega) (by (try dsimp only) <;> first | assumption | omega | ((try simp (disch := omega) only [w32_of, w64_of, w8_of]) <;> first | assumption | omega | (split <;> omega) | (refine And.intro ?_ ?_ <;> split <;> omega)) | omega) (fun x_15 e_x_15 => ?_)
  have b_x_15 : (-1000000000) ≤ x_15 ∧ x_15 ≤ 1000000000 := by rw [e_x_15]; exact iiE_ay (s := 194) hσ (by decide) _
  try simp (disch := omega) only [w32_of, w64_of, w8_of] at e_x_15
  have c11 : (-1000000000) ≤ σ 50176 j_0 ∧ σ 50176 j_0 ≤ 1000000000 := iiE_ay (s := 194) hσ (by decide) j_0
  refine wp_rdI (by (try dsimp only) <;> first | assumption | omega | ((try simp (disch := omega) only [w32_of, w64_of, w8_of]) <;> first | assumption | omega | (split <;> omega) | (refine And.intro ?_ ?_ <;> split <;> omega)) | omega) (by (try dsimp only) <;> first | assumption | omega | ((try simp (disch := omega) only [w32_of, w64_of, w8_of]) <;> first | assumption | omega | (split <;> omega) | (refine And.intro ?_ ?_ <;> split <;> omega)) | omega) (fun x_17 e_x_17 => ?_)
  have b_x_17 : (-1000000000) ≤ x_17 ∧ x_17 ≤ 1000000000 := by rw [e_x_17]; exact iiE_ax (s := 194) hσ (by decide) _
  try simp (disch := omega) only [w32_of, w64_of, w8_of] at e_x_17
  refine wp_rdI (by (try dsimp only) <;> first | assumption | omega | ((try simp (disch := omega) only [w32_of, w64_of, w8_of]) <;> first | assumption | omega | (split <;> omega) | (refine And.intro ?_ ?_ <;> split <;> omega)) | omega) (by (try dsimp only) <;> first | assumption | omega | ((try simp (disch := omega) only [w32_of, w64_of, w8_of]) <;> first | assumption | omega | (split <;> omega) | (refine And.intro ?_ ?_ <;> split <;> omega)) | omega) (fun x_19 e_x_19 => ?_)
  have b_x_19 : (-1000000000) ≤ x_19 ∧ x_19 ≤ 1000000000 := by rw [e_x_19]; exact iiE_ax (s := 194) hσ (by decide) _
  try simp (disch := omega) only [w32_of, w64_of, w8_of] at e_x_19
  refine wp_rdI (by (try dsimp only) <;> first | assumption | omega | ((try simp (disch := omega) only [w32_of, w64_of, w8_of]) <;> first | assumption | omega | (split <;> omega) | (refine And.intro ?_ ?_ <;> split <;> omega)) | omega) (by (try dsimp only) <;> first | assumption | omega | ((try simp (disch := omega) only [w32_of, w64_of, w8_of]) <;> first | assumption | omega | (split <;> omega) | (refine And.intro ?_ ?_ <;> split <;> omega)) | omega) (fun x_21 e_x_21 => ?_)
  have b_x_21 : (-1000000000) ≤ x_21 ∧ x_21 ≤ 1000000000 := by rw [e_x_21]; exact iiE_ay (s := 194) hσ (by decide) _
  try simp (disch := omega) only [w32_of, w64_of, w8_of] at e_x_21
  refine wp_rdI (by (try dsimp only) <;> first | assumption | omega | ((try simp (disch := omega) only [w32_of, w64_of, w8_of]) <;> first | assumption | omega | (split <;> omega) | (refine And.intro ?_ ?_ <;> split <;> omega)) | omega) (by (try dsimp only) <;> first | assumption | omega | ((try simp (disch := omega) only [w32_of, w64_of, w8_of]) <;> first | assumption | omega | (split <;> omega) | (refine And.intro ?_ ?_ <;> split <;> omega)) | omega) (fun x_23 e_x_23 => ?_)
  have b_x_23 : (-1000000000) ≤ x_23 ∧ x_23 ≤ 1000000000 := by rw [e_x_23]; exact iiE_ay (s := 194) hσ (by decide) _
  try simp (disch := omega) only [w32_of, w64_of, w8_of] at e_x_23
  have c12 := w32_rng (x_1 - x_3)
  have c13 := w32_rng x_13
  have c14 := w32_rng x_15
  have c15 := w32_rng (x_5 - x_7)
  have c16 := w32_rng x_9
  have c17 := w32_rng x_11
  have c18 := q_abl_bd (((w32 (x_1 - x_3)) * ((w32 x_13) - (w32 x_15))) - ((w32 (x_5 - x_7)) * ((w32 x_9) - (w32 x_11))))
  try simp (disch := omega) only [w32_of, w64_of, w8_of] at c18
  refine wp_lt (fun x_25 e_x_25 => ?_)
  try simp (disch := omega) only [w32_of, w64_of, w8_of] at e_x_25
  have c19 := w32_rng x_17
  have c20 := w32_rng x_19
  have c21 := w32_rng x_21
  have c22 := w32_rng x_23
  have c23 := q_abl_bd ((((w32 x_17) - (w32 x_19)) * ((w32 x_13) - (w32 x_15))) - (((w32 x_21) - (w32 x_23)) * ((w32 x_9) - (w32 x_11))))
  try simp (disch := omega) only [w32_of, w64_of, w8_of] at c23
  refine wp_lt (fun x_26 e_x_26 => ?_)
  try simp (disch := omega) only [w32_of, w64_of, w8_of] at e_x_26
  have ew : x_25 = wh := by
    rw [e_x_25]; (try simp (disch := omega) only [w32_of]); rw [e_x_1, e_x_3, e_x_5, e_x_7, e_x_9, e_x_11, e_x_13, e_x_15]; exact se1
  have es : x_26 = sh := by
    rw [e_x_26]; (try simp (disch := omega) only [w32_of]); rw [e_x_9, e_x_11, e_x_13, e_x_15, e_x_17, e_x_19, e_x_21, e_x_23]; exact se2
  refine wp_rdI (by (try dsimp only) <;> first | assumption | omega | ((try simp (disch := omega) only [w32_of, w64_of, w8_of]) <;> first | assumption | omega | (split <;> omega) | (refine And.intro ?_ ?_ <;> split <;> omega)) | omega) (by (try dsimp only) <;> first | assumption | omega | ((try simp (disch := omega) only [w32_of, w64_of, w8_of]) <;> first | assumption | omega | (split <;> omega) | (refine And.intro ?_ ?_ <;> split <;> omega)) | omega) (fun x_27 e_x_27 => ?_)
  have b_x_27 : (-1000000000) ≤ x_27 ∧ x_27 ≤ 1000000000 := by rw [e_x_27]; exact iiE_ax (s := 194) hσ (by decide) _
  try simp (disch := omega) only [w32_of, w64_of, w8_of] at e_x_27
  refine wp_bd (v_pixelAt (start_0 := x_27) (way_0 := (x_1 - x_3)) (share_0 := x_26) (whole_0 := x_25) (by (try dsimp only) <;> first | assumption | omega | ((try simp (disch := omega) only [w32_of, w64_of, w8_of]) <;> first | assumption | omega | (split <;> omega) | (refine And.intro ?_ ?_ <;> split <;> omega)) | omega) (by (try dsimp only) <;> first | assumption | omega | ((try simp (disch := omega) only [w32_of, w64_of, w8_of]) <;> first | assumption | omega | (split <;> omega) | (refine And.intro ?_ ?_ <;> split <;> omega)) | omega) (by (try dsimp only) <;> first | assumption | omega | ((try simp (disch := omega) only [w32_of, w64_of, w8_of]) <;> first | assumption | omega | (split <;> omega) | (refine And.intro ?_ ?_ <;> split <;> omega)) | omega) (by (try dsimp only) <;> first | assumption | omega | ((try simp (disch := omega) only [w32_of, w64_of, w8_of]) <;> first | assumption | omega | (split <;> omega) | (refine And.intro ?_ ?_ <;> split <;> omega)) | omega) (by (try dsimp only) <;> first | assumption | omega | ((try simp (disch := omega) only [w32_of, w64_of, w8_of]) <;> first | assumption | omega | (split <;> omega) | (refine And.intro ?_ ?_ <;> split <;> omega)) | omega) (by (try dsimp only) <;> first | assumption | omega | ((try simp (disch := omega) only [w32_of, w64_of, w8_of]) <;> first | assumption | omega | (split <;> omega) | (refine And.intro ?_ ?_ <;> split <;> omega)) | omega)) ?_
  rintro x_30 - ⟨hp1, hp2⟩
  try simp (disch := omega) only [w32_of, w64_of, w8_of] at hp1
  try simp (disch := omega) only [w32_of, w64_of, w8_of] at hp2
  refine wp_rdI (by (try dsimp only) <;> first | assumption | omega | ((try simp (disch := omega) only [w32_of, w64_of, w8_of]) <;> first | assumption | omega | (split <;> omega) | (refine And.intro ?_ ?_ <;> split <;> omega)) | omega) (by (try dsimp only) <;> first | assumption | omega | ((try simp (disch := omega) only [w32_of, w64_of, w8_of]) <;> first | assumption | omega | (split <;> omega) | (refine And.intro ?_ ?_ <;> split <;> omega)) | omega) (fun x_31 e_x_31 => ?_)
  have b_x_31 : (-1000000000) ≤ x_31 ∧ x_31 ≤ 1000000000 := by rw [e_x_31]; exact iiE_ay (s := 194) hσ (by decide) _
  try simp (disch := omega) only [w32_of, w64_of, w8_of] at e_x_31
  refine wp_bd (v_pixelAt (start_0 := x_31) (way_0 := (x_5 - x_7)) (share_0 := x_26) (whole_0 := x_25) (by (try dsimp only) <;> first | assumption | omega | ((try simp (disch := omega) only [w32_of, w64_of, w8_of]) <;> first | assumption | omega | (split <;> omega) | (refine And.intro ?_ ?_ <;> split <;> omega)) | omega) (by (try dsimp only) <;> first | assumption | omega | ((try simp (disch := omega) only [w32_of, w64_of, w8_of]) <;> first | assumption | omega | (split <;> omega) | (refine And.intro ?_ ?_ <;> split <;> omega)) | omega) (by (try dsimp only) <;> first | assumption | omega | ((try simp (disch := omega) only [w32_of, w64_of, w8_of]) <;> first | assumption | omega | (split <;> omega) | (refine And.intro ?_ ?_ <;> split <;> omega)) | omega) (by (try dsimp only) <;> first | assumption | omega | ((try simp (disch := omega) only [w32_of, w64_of, w8_of]) <;> first | assumption | omega | (split <;> omega) | (refine And.intro ?_ ?_ <;> split <;> omega)) | omega) (by (try dsimp only) <;> first | assumption | omega | ((try simp (disch := omega) only [w32_of, w64_of, w8_of]) <;> first | assumption | omega | (split <;> omega) | (refine And.intro ?_ ?_ <;> split <;> omega)) | omega) (by (try dsimp only) <;> first | assumption | omega | ((try simp (disch := omega) only [w32_of, w64_of, w8_of]) <;> first | assumption | omega | (split <;> omega) | (refine And.intro ?_ ?_ <;> split <;> omega)) | omega)) ?_
  rintro x_34 - ⟨hp3, hp4⟩
  try simp (disch := omega) only [w32_of, w64_of, w8_of] at hp3
  try simp (disch := omega) only [w32_of, w64_of, w8_of] at hp4
  have q1 := near_px (a := x_27) (d := x_1 - x_3) (by omega) (by omega) (by omega : 0 ≤ x_26) (by omega : x_26 ≤ x_25) (by omega) hp1 hp2
  have q2 := near_px (a := x_31) (d := x_5 - x_7) (by omega) (by omega) (by omega : 0 ≤ x_26) (by omega : x_26 ≤ x_25) (by omega) hp3 hp4
  refine wp_bd (s_N_addHot (σ := σ) (x_0 := x_30) (y_0 := x_34) hσ w0 (by (try dsimp only) <;> first | assumption | omega | ((try simp (disch := omega) only [w32_of, w64_of, w8_of]) <;> first | assumption | omega | (split <;> omega) | (refine And.intro ?_ ?_ <;> split <;> omega)) | omega) (by (try dsimp only) <;> first | assumption | omega | ((try simp (disch := omega) only [w32_of, w64_of, w8_of]) <;> first | assumption | omega | (split <;> omega) | (refine And.intro ?_ ?_ <;> split <;> omega)) | omega)) ?_
  rintro ⟨x_37, σ_36⟩ - y25
  try dsimp only at y25 ⊢
  obtain ⟨hσ_36, flσ_36, g24⟩ := y25
  have frσ_36 : FC [kN_keyCount, kN_keys] [] σ σ_36 := FC_le flσ_36 (by first | decide | (rcases hE with rfl | rfl | rfl <;> decide)) (by simp)
  try simp (disch := omega) only [w32_of, w64_of, w8_of] at g24
  exact wp_some ⟨hσ_36, frσ_36, g24⟩
theorem s_N_addSegment {σ : SG} {shape_0 : Nat} {i_0 : Int} {mask_0 : Int} (hσ : II σ) (hs_shape_0 : isS shape_0) (w0 : KYs σ) (w1 : SNc σ) (w2 : SNs σ shape_0) (w3 : 0 ≤ i_0 ∧ i_0 + 1 < σ (kA_points shape_0) 0) (w4 : 1 ≤ mask_0 ∧ mask_0 ≤ 2) : wp_ (fN_addSegment σ shape_0 i_0 mask_0) (fun zz_ => II zz_.2 ∧ FC [49920, 50176, 50432, 50688, 50944, (kE_size 194), kN_keyCount, kN_keys, kN_lengthless] [] σ zz_.2 ∧ (KYs zz_.2) ∧ (SNc zz_.2)) := by
  unfold fN_addSegment
  have c1 := iiA_points (s := shape_0) hσ (by first | assumption | decide | omega) 0
  have hpl := iiA_plans hσ hs_shape_0 0
  have hpt := iiA_points hσ hs_shape_0 0
  have c3 := iiE_size (s := 194) hσ (by decide) 0
  have c4 := ii_kN_lengthless hσ 0
  have c5 := w32_rng ((σ (kE_size 194) 0) + (σ kN_lengthless 0))
  refine wp_if (fun c2 => ?_) (fun c2 => ?_)
  · try simp (disch := omega) only [w32_of, w64_of, w8_of, decide_eq_true_eq, decide_eq_false_iff_not, Bool.not_eq_true] at c2
    exact wp_some ⟨hσ, (FC_refl _ _ _), w0, w1⟩
  · try simp (disch := omega) only [w32_of, w64_of, w8_of, decide_eq_true_eq, decide_eq_false_iff_not, Bool.not_eq_true] at c2
    refine wp_bd (P := fun rr_ => II rr_ ∧ FC [49920, 50176, 50432, 50688, 50944, (kE_size 194), kN_keyCount, kN_keys, kN_lengthless] [] σ rr_ ∧ (KYs rr_) ∧ (SNc rr_)) ?_ ?_
    · refine wp_bd (s_A_areLike (σ := σ) (this_0 := shape_0) (i_0 := i_0) (j_0 := (i_0 + 1)) hσ (by first | assumption | decide | omega) (by (try dsimp only) <;> first | assumption | omega | ((try simp (disch := omega) only [w32_of, w64_of, w8_of]) <;> first | assumption | omega | (split <;> omega) | (refine And.intro ?_ ?_ <;> split <;> omega)) | omega) (by (try dsimp only) <;> first | assumption | omega | ((try simp (disch := omega) only [w32_of, w64_of, w8_of]) <;> first | assumption | omega | (split <;> omega) | (refine And.intro ?_ ?_ <;> split <;> omega)) | omega)) ?_
      rintro x_7 - g6
      have c7 := iiA_x (s := shape_0) hσ (by first | assumption | decide | omega) i_0
      have c8 := iiA_x (s := shape_0) hσ (by first | assumption | decide | omega) (i_0 + 1)
      have c9 := iiA_y (s := shape_0) hσ (by first | assumption | decide | omega) i_0
      have c10 := iiA_y (s := shape_0) hσ (by first | assumption | decide | omega) (i_0 + 1)
      try simp (disch := omega) only [w32_of, w64_of, w8_of] at g6
      refine wp_if (fun c11 => ?_) (fun c11 => ?_)
      · have k12 := g6.mp c11
        try simp (disch := omega) only [w32_of, w64_of, w8_of] at k12
        try simp (disch := omega) only [w32_of, w64_of, w8_of, decide_eq_true_eq, decide_eq_false_iff_not, Bool.not_eq_true] at c11
        refine wp_wfI hσ b_kN_lengthless (by (try dsimp only) <;> first | assumption | omega | ((try simp (disch := omega) only [w32_of, w64_of, w8_of]) <;> first | assumption | omega | (split <;> omega) | (refine And.intro ?_ ?_ <;> split <;> omega)) | omega) (fun σ_9 hσ_9 eσ_9 => ?_)
        try simp (disch := omega) only [w32_of, w64_of, w8_of] at eσ_9
        have flσ_9 := FC_sg eσ_9 (by first | decide | (rcases hE with rfl | rfl | rfl <;> decide))
        have frσ_9 : FC [49920, 50176, 50432, 50688, 50944, (kE_size 194), kN_keyCount, kN_keys, kN_lengthless] [] σ σ_9 := FC_le flσ_9 (by first | decide | (rcases hE with rfl | rfl | rfl <;> decide)) (by simp)
        exact wp_some ⟨hσ_9, frσ_9, (KYs_f flσ_9 (by decide) w0), (by (try dsimp only) <;> (first | exact SNc_f flσ_9 (by decide) w1 | exact SNc_add ha2 ha3 w1 w2 (by omega) (by omega)))⟩
      · have k13 := fun q => c11 (g6.mpr q)
        try simp (disch := omega) only [w32_of, w64_of, w8_of] at k13
        try simp (disch := omega) only [w32_of, w64_of, w8_of, decide_eq_true_eq, decide_eq_false_iff_not, Bool.not_eq_true] at c11
        refine wp_bd (v_addE (σ := σ) (this_0 := 194) (shape_0 := shape_0) (from_0 := i_0) (to_0 := (i_0 + 1)) (itsMark_0 := mask_0) hσ (by decide) (by first | assumption | decide | omega) (by (try dsimp only) <;> first | assumption | omega | ((try simp (disch := omega) only [w32_of, w64_of, w8_of]) <;> first | assumption | omega | (split <;> omega) | (refine And.intro ?_ ?_ <;> split <;> omega)) | omega) (by (try dsimp only) <;> first | assumption | omega | ((try simp (disch := omega) only [w32_of, w64_of, w8_of]) <;> first | assumption | omega | (split <;> omega) | (refine And.intro ?_ ?_ <;> split <;> omega)) | omega) (by rw [bE_mark194]; exact ⟨by omega, by omega⟩)) ?_
        rintro ⟨x_13, σ_12⟩ - y14
        try dsimp only at y14 ⊢
        obtain ⟨hσ_12, flσ_12, ha0, ha1, ha2, ha3⟩ := y14
        have frσ_12 : FC [49920, 50176, 50432, 50688, 50944, (kE_size 194), kN_keyCount, kN_keys, kN_lengthless] [] σ σ_12 := FC_le flσ_12 (by first | decide | (rcases hE with rfl | rfl | rfl <;> decide)) (by simp)
        have c15 := iiE_size (s := 194) hσ_12 (by decide) 0
        try simp (disch := omega) only [w32_of, w64_of, w8_of] at ha0
        try simp (disch := omega) only [w32_of, w64_of, w8_of] at ha1
        try simp (disch := omega) only [w32_of, w64_of, w8_of] at ha2
        try simp (disch := omega) only [w32_of, w64_of, w8_of] at ha3
        exact wp_some ⟨hσ_12, frσ_12, (KYs_f flσ_12 (by decide) w0), (by (try dsimp only) <;> (first | exact SNc_f flσ_9 (by decide) w1 | exact SNc_add ha2 ha3 w1 w2 (by omega) (by omega)))⟩
    rintro σ_15 _ ⟨hσ_15, frσ_15, g16, g17⟩
    refine wp_bd (P := fun rr_ => II rr_.2 ∧ FC [49920, 50176, 50432, 50688, 50944, (kE_size 194), kN_keyCount, kN_keys, kN_lengthless] [] σ rr_.2 ∧ (KYs rr_.2) ∧ (SNc rr_.2)) ?_ ?_
    · have c18 := w32_rng i_0
      refine wp_rdI (by (try dsimp only) <;> first | assumption | omega | ((try simp (disch := omega) only [w32_of, w64_of, w8_of]) <;> first | assumption | omega | (split <;> omega) | (refine And.intro ?_ ?_ <;> split <;> omega)) | omega) (by (try dsimp only) <;> first | assumption | omega | ((try simp (disch := omega) only [w32_of, w64_of, w8_of]) <;> first | assumption | omega | (split <;> omega) | (refine And.intro ?_ ?_ <;> split <;> omega)) | omega) (fun x_16 e_x_16 => ?_)
      have b_x_16 : (-1000000000) ≤ x_16 ∧ x_16 ≤ 1000000000 := by rw [e_x_16]; exact iiA_x (s := shape_0) hσ_15 (by first | assumption | decide | omega) _
      rw [FC_x (t := shape_0) frσ_15 (by first | assumption | decide | omega) (NS_0 _)] at e_x_16
      try simp (disch := omega) only [w32_of, w64_of, w8_of] at e_x_16
      have c19 := iiA_x (s := shape_0) hσ_15 (by first | assumption | decide | omega) i_0
      have c20 := congrFun (FC_x (t := shape_0) frσ_15 (by first | assumption | decide | omega) (NS_0 _)) i_0
      have c21 := iiA_x (s := shape_0) hσ (by first | assumption | decide | omega) i_0
      refine wp_rdI (by (try dsimp only) <;> first | assumption | omega | ((try simp (disch := omega) only [w32_of, w64_of, w8_of]) <;> first | assumption | omega | (split <;> omega) | (refine And.intro ?_ ?_ <;> split <;> omega)) | omega) (by (try dsimp only) <;> first | assumption | omega | ((try simp (disch := omega) only [w32_of, w64_of, w8_of]) <;> first | assumption | omega | (split <;> omega) | (refine And.intro ?_ ?_ <;> split <;> omega)) | omega) (fun x_18 e_x_18 => ?_)
      have b_x_18 : (-1000000000) ≤ x_18 ∧ x_18 ≤ 1000000000 := by rw [e_x_18]; exact iiA_y (s := shape_0) hσ_15 (by first | assumption | decide | omega) _
      rw [FC_y (t := shape_0) frσ_15 (by first | assumption | decide | omega) (NS_0 _)] at e_x_18
      try simp (disch := omega) only [w32_of, w64_of, w8_of] at e_x_18
      have c22 := iiA_y (s := shape_0) hσ_15 (by first | assumption | decide | omega) i_0
      have c23 := congrFun (FC_y (t := shape_0) frσ_15 (by first | assumption | decide | omega) (NS_0 _)) i_0
      have c24 := iiA_y (s := shape_0) hσ (by first | assumption | decide | omega) i_0
      refine wp_bd (s_N_addHot (σ := σ_15) (x_0 := x_16) (y_0 := x_18) hσ_15 g16 (by (try dsimp only) <;> first | assumption | omega | ((try simp (disch := omega) only [w32_of, w64_of, w8_of]) <;> first | assumption | omega | (split <;> omega) | (refine And.intro ?_ ?_ <;> split <;> omega)) | omega) (by (try dsimp only) <;> first | assumption | omega | ((try simp (disch := omega) only [w32_of, w64_of, w8_of]) <;> first | assumption | omega | (split <;> omega) | (refine And.intro ?_ ?_ <;> split <;> omega)) | omega)) ?_
      rintro ⟨x_22, σ_21⟩ - y26
      try dsimp only at y26 ⊢
      obtain ⟨hσ_21, flσ_21, g25⟩ := y26
      have frσ_21 : FC [49920, 50176, 50432, 50688, 50944, (kE_size 194), kN_keyCount, kN_keys, kN_lengthless] [] σ σ_21 := FC_tr frσ_15 flσ_21 (by first | decide | (rcases hE with rfl | rfl | rfl <;> decide)) (by first | decide | (rcases hE with rfl | rfl | rfl <;> decide)) (by simp) (by simp)
      try simp (disch := omega) only [w32_of, w64_of, w8_of] at g25
      refine wp_if (fun c27 => ?_) (fun c27 => ?_)
      · try simp (disch := omega) only [w32_of, w64_of, w8_of, decide_eq_true_eq, decide_eq_false_iff_not, Bool.not_eq_true] at c27
        have c28 := w32_rng (i_0 + 1)
        refine wp_rdI (by (try dsimp only) <;> first | assumption | omega | ((try simp (disch := omega) only [w32_of, w64_of, w8_of]) <;> first | assumption | omega | (split <;> omega) | (refine And.intro ?_ ?_ <;> split <;> omega)) | omega) (by (try dsimp only) <;> first | assumption | omega | ((try simp (disch := omega) only [w32_of, w64_of, w8_of]) <;> first | assumption | omega | (split <;> omega) | (refine And.intro ?_ ?_ <;> split <;> omega)) | omega) (fun x_24 e_x_24 => ?_)
        have b_x_24 : (-1000000000) ≤ x_24 ∧ x_24 ≤ 1000000000 := by rw [e_x_24]; exact iiA_x (s := shape_0) hσ_21 (by first | assumption | decide | omega) _
        rw [FC_x (t := shape_0) frσ_21 (by first | assumption | decide | omega) (NS_0 _)] at e_x_24
        try simp (disch := omega) only [w32_of, w64_of, w8_of] at e_x_24
        have c29 := iiA_x (s := shape_0) hσ_21 (by first | assumption | decide | omega) (i_0 + 1)
        have c30 := congrFun (FC_x (t := shape_0) flσ_21 (by first | assumption | decide | omega) (NS_0 _)) (i_0 + 1)
        have c31 := iiA_x (s := shape_0) hσ_15 (by first | assumption | decide | omega) (i_0 + 1)
        have c32 := congrFun (FC_x (t := shape_0) frσ_15 (by first | assumption | decide | omega) (NS_0 _)) (i_0 + 1)
        have c33 := iiA_x (s := shape_0) hσ (by first | assumption | decide | omega) (i_0 + 1)
        refine wp_rdI (by (try dsimp only) <;> first | assumption | omega | ((try simp (disch := omega) only [w32_of, w64_of, w8_of]) <;> first | assumption | omega | (split <;> omega) | (refine And.intro ?_ ?_ <;> split <;> omega)) | omega) (by (try dsimp only) <;> first | assumption | omega | ((try simp (disch := omega) only [w32_of, w64_of, w8_of]) <;> first | assumption | omega | (split <;> omega) | (refine And.intro ?_ ?_ <;> split <;> omega)) | omega) (fun x_26 e_x_26 => ?_)
        have b_x_26 : (-1000000000) ≤ x_26 ∧ x_26 ≤ 1000000000 := by rw [e_x_26]; exact iiA_y (s := shape_0) hσ_21 (by first | assumption | decide | omega) _
        rw [FC_y (t := shape_0) frσ_21 (by first | assumption | decide | omega) (NS_0 _)] at e_x_26
        try simp (disch := omega) only [w32_of, w64_of, w8_of] at e_x_26
        have c34 := iiA_y (s := shape_0) hσ_21 (by first | assumption | decide | omega) (i_0 + 1)
        have c35 := congrFun (FC_y (t := shape_0) flσ_21 (by first | assumption | decide | omega) (NS_0 _)) (i_0 + 1)
        have c36 := iiA_y (s := shape_0) hσ_15 (by first | assumption | decide | omega) (i_0 + 1)
        have c37 := congrFun (FC_y (t := shape_0) frσ_15 (by first | assumption | decide | omega) (NS_0 _)) (i_0 + 1)
        have c38 := iiA_y (s := shape_0) hσ (by first | assumption | decide | omega) (i_0 + 1)
        refine wp_bd (s_N_addHot (σ := σ_21) (x_0 := x_24) (y_0 := x_26) hσ_21 g25 (by (try dsimp only) <;> first | assumption | omega | ((try simp (disch := omega) only [w32_of, w64_of, w8_of]) <;> first | assumption | omega | (split <;> omega) | (refine And.intro ?_ ?_ <;> split <;> omega)) | omega) (by (try dsimp only) <;> first | assumption | omega | ((try simp (disch := omega) only [w32_of, w64_of, w8_of]) <;> first | assumption | omega | (split <;> omega) | (refine And.intro ?_ ?_ <;> split <;> omega)) | omega)) ?_
        rintro ⟨x_30, σ_29⟩ - y40
        try dsimp only at y40 ⊢
        obtain ⟨hσ_29, flσ_29, g39⟩ := y40
        have frσ_29 : FC [49920, 50176, 50432, 50688, 50944, (kE_size 194), kN_keyCount, kN_keys, kN_lengthless] [] σ σ_29 := FC_tr frσ_21 flσ_29 (by first | decide | (rcases hE with rfl | rfl | rfl <;> decide)) (by first | decide | (rcases hE with rfl | rfl | rfl <;> decide)) (by simp) (by simp)
        try simp (disch := omega) only [w32_of, w64_of, w8_of] at g39
        refine wp_if (fun c41 => ?_) (fun c41 => ?_)
        · try simp (disch := omega) only [w32_of, w64_of, w8_of, decide_eq_true_eq, decide_eq_false_iff_not, Bool.not_eq_true] at c41
          exact wp_some ⟨hσ_29, frσ_29, g39, (SNc_f flσ_29 (by decide) (SNc_f flσ_21 (by decide) g17))⟩
        · try simp (disch := omega) only [w32_of, w64_of, w8_of, decide_eq_true_eq, decide_eq_false_iff_not, Bool.not_eq_true] at c41
          exact wp_some ⟨hσ_29, frσ_29, g39, (SNc_f flσ_29 (by decide) (SNc_f flσ_21 (by decide) g17))⟩
      · try simp (disch := omega) only [w32_of, w64_of, w8_of, decide_eq_true_eq, decide_eq_false_iff_not, Bool.not_eq_true] at c27
        exact wp_some ⟨hσ_21, frσ_21, g25, (SNc_f flσ_21 (by decide) g17)⟩
    rintro ⟨x_35, σ_36⟩ _ y44
    try dsimp only at y44 ⊢
    obtain ⟨hσ_36, frσ_36, g42, g43⟩ := y44
    exact wp_some ⟨hσ_36, frσ_36, g42, g43⟩
theorem s_N_collect {σ : SG} {shape_0 : Nat} {mask_0 : Int} (hσ : II σ) (hs_shape_0 : isS shape_0) (w0 : SHa σ shape_0) (w1 : SNs σ shape_0) (w2 : KYs σ) (w3 : SNc σ) (w4 : 1 ≤ mask_0 ∧ mask_0 ≤ 2) : wp_ (fN_collect σ shape_0 mask_0) (fun zz_ => II zz_.2 ∧ FC [49920, 50176, 50432, 50688, 50944, (kE_size 194), kN_keyCount, kN_keys, kN_lengthless] [] σ zz_.2 ∧ (KYs zz_.2) ∧ (SNc zz_.2)) := by
  unfold fN_collect
  have hpl := iiA_plans hσ hs_shape_0 0
  have hpt := iiA_points hσ hs_shape_0 0
  refine wp_bx (P := fun rr_ => II rr_.2.2 ∧ FC [49920, 50176, 50432, 50688, 50944, (kE_size 194), kN_keyCount, kN_keys, kN_lengthless] [] σ rr_.2.2 ∧ (KYs rr_.2.2) ∧ (SNc rr_.2.2)) ?_ ?_
  · refine wp_whl (fun ss_ => II ss_.2.2 ∧ FC [49920, 50176, 50432, 50688, 50944, (kE_size 194), kN_keyCount, kN_keys, kN_lengthless] [] σ ss_.2.2 ∧ (FLa σ shape_0 ss_.2.1 ss_.1) ∧ (KYs ss_.2.2) ∧ (SNc ss_.2.2)) (fun ss_ => (2048 - ss_.2.1).toNat) ⟨hσ, (FC_refl _ _ _), (by (try dsimp only) <;> (first | assumption | exact FLa_0 w0 | (rw [hbh, hfe]; exact hn))), w2, w3⟩ ?_
    rintro ⟨from_1, at_2, σ_3⟩ y3
    try dsimp only at y3 ⊢
    obtain ⟨hσ_3, frσ_3, gw, g1, g2⟩ := y3
    have hle := FLa_le gw
    have c5 := w32_rng (at_2 + 1)
    have c6 := iiA_plans (s := shape_0) hσ_3 (by first | assumption | decide | omega) 0
    have c7 := congrFun (FC_plans (t := shape_0) frσ_3 (by first | assumption | decide | omega) (NS_0 _)) 0
    have c8 := iiA_plans (s := shape_0) hσ (by first | assumption | decide | omega) 0
    have c9 := w32_rng (σ_3 (kA_plans shape_0) 0)
    refine wp_if (fun c4 => ?_) (fun c4 => ?_)
    · try simp (disch := omega) only [w32_of, w64_of, w8_of, decide_eq_true_eq, decide_eq_false_iff_not, Bool.not_eq_true] at c4
      obtain ⟨he, hn, h2, h3, h4, h5, h6⟩ := FLa_hd hσ hs_shape_0 gw (by omega)
      obtain ⟨ho, -, -, -⟩ := id he
      have hRe := rS_end ho
      refine wp_bx (P := fun rr_ => II rr_.2.2 ∧ FC [49920, 50176, 50432, 50688, 50944, (kE_size 194), kN_keyCount, kN_keys, kN_lengthless] [] σ rr_.2.2 ∧ (rr_.1 = from_1 + eP (σ (kA_plan shape_0)) at_2) ∧ (KYs rr_.2.2) ∧ (SNc rr_.2.2)) ?_ ?_
      · refine wp_whl (fun ss_ => II ss_.2.2 ∧ FC [49920, 50176, 50432, 50688, 50944, (kE_size 194), kN_keyCount, kN_keys, kN_lengthless] [] σ ss_.2.2 ∧ (0 ≤ ss_.2.1 ∧ ss_.2.1 ≤ rN (σ (kA_plan shape_0)) at_2) ∧ (ss_.1 = from_1 + rS (σ (kA_plan shape_0)) at_2 ss_.2.1) ∧ (KYs ss_.2.2) ∧ (SNc ss_.2.2)) (fun ss_ => (rN (σ (kA_plan shape_0)) at_2 - ss_.2.1).toNat) ⟨hσ_3, frσ_3, (by (try dsimp only) <;> first | assumption | omega | ((try simp (disch := omega) only [w32_of, w64_of, w8_of]) <;> first | assumption | omega | (split <;> omega) | (refine And.intro ?_ ?_ <;> split <;> omega)) | omega), (by (try dsimp only) <;> (first | (rw [rS_0]; omega) | omega)), g1, g2⟩ ?_
        rintro ⟨from_12, row_13, σ_14⟩ y13
        try dsimp only at y13 ⊢
        obtain ⟨hσ_14, frσ_14, g10, hfr, g11, g12⟩ := y13
        refine wp_bd (s_A_rows (σ := σ_14) (this_0 := shape_0) (at_0 := at_2) hσ_14 (by first | assumption | decide | omega) (ENa_f frσ_14 (by first | assumption | decide | omega) (NS_0 _) he)) ?_
        rintro x_23 - ⟨g14, g15⟩
        try simp only [FC_plan (t := shape_0) frσ_14 (by first | assumption | decide | omega) (NS_0 _)] at g14
        try simp (disch := omega) only [w32_of, w64_of, w8_of] at g14
        try simp (disch := omega) only [w32_of, w64_of, w8_of] at g15
        have c17 := w32_rng row_13
        have c18 := w32_rng x_23
        refine wp_if (fun c16 => ?_) (fun c16 => ?_)
        · try simp (disch := omega) only [w32_of, w64_of, w8_of, decide_eq_true_eq, decide_eq_false_iff_not, Bool.not_eq_true] at c16
          have hg := rS_go ho (show 0 ≤ row_13 by omega) (by omega)
          refine wp_bd (s_A_rowLength (σ := σ_14) (this_0 := shape_0) (at_0 := at_2) (row_0 := row_13) hσ_14 (by first | assumption | decide | omega) (ENa_f frσ_14 (by first | assumption | decide | omega) (NS_0 _) he) (by (try simp only [FC_plan (t := shape_0) frσ_14 (by first | assumption | decide | omega) (NS_0 _)]) <;> ((try dsimp only) <;> first | assumption | omega | ((try simp (disch := omega) only [w32_of, w64_of, w8_of]) <;> first | assumption | omega | (split <;> omega) | (refine And.intro ?_ ?_ <;> split <;> omega)) | omega))) ?_
          rintro x_26 - ⟨g19, g20⟩
          try simp only [FC_plan (t := shape_0) frσ_14 (by first | assumption | decide | omega) (NS_0 _)] at g19
          try simp (disch := omega) only [w32_of, w64_of, w8_of] at g19
          try simp (disch := omega) only [w32_of, w64_of, w8_of] at g20
          refine wp_bx (P := fun rr_ => II rr_.2 ∧ FC [49920, 50176, 50432, 50688, 50944, (kE_size 194), kN_keyCount, kN_keys, kN_lengthless] [] σ rr_.2 ∧ (KYs rr_.2) ∧ (SNc rr_.2)) ?_ ?_
          · refine wp_whl (fun ss_ => II ss_.2 ∧ FC [49920, 50176, 50432, 50688, 50944, (kE_size 194), kN_keyCount, kN_keys, kN_lengthless] [] σ ss_.2 ∧ (from_12 ≤ ss_.1 ∧ ss_.1 ≤ 2048) ∧ (KYs ss_.2) ∧ (SNc ss_.2)) (fun ss_ => (2049 - ss_.1).toNat) ⟨hσ_14, frσ_14, (by (try dsimp only) <;> first | assumption | omega | ((try simp (disch := omega) only [w32_of, w64_of, w8_of]) <;> first | assumption | omega | (split <;> omega) | (refine And.intro ?_ ?_ <;> split <;> omega)) | omega), g11, g12⟩ ?_
            rintro ⟨i_27, σ_28⟩ y24
            try dsimp only at y24 ⊢
            obtain ⟨hσ_28, frσ_28, g21, g22, g23⟩ := y24
            have c26 := w32_rng (i_27 + 1)
            have c27 := w32_rng (from_12 + x_26)
            refine wp_if (fun c25 => ?_) (fun c25 => ?_)
            · try simp (disch := omega) only [w32_of, w64_of, w8_of, decide_eq_true_eq, decide_eq_false_iff_not, Bool.not_eq_true] at c25
              have c28 := iiA_points (s := shape_0) hσ_28 (by first | assumption | decide | omega) 0
              have c29 := congrFun (FC_points (t := shape_0) frσ_28 (by first | assumption | decide | omega) (NS_0 _)) 0
              have c30 := iiA_points (s := shape_0) hσ (by first | assumption | decide | omega) 0
              refine wp_bd (s_N_addSegment (σ := σ_28) (shape_0 := shape_0) (i_0 := i_27) (mask_0 := mask_0) hσ_28 (by first | assumption | decide | omega) g22 g23 (SNs_f frσ_28 (by first | assumption | decide | omega) (NS_0 _) w1) (by (try simp only [FC_points (t := shape_0) frσ_28 (by first | assumption | decide | omega) (NS_0 _)]) <;> ((try dsimp only) <;> first | assumption | omega | ((try simp (disch := omega) only [w32_of, w64_of, w8_of]) <;> first | assumption | omega | (split <;> omega) | (refine And.intro ?_ ?_ <;> split <;> omega)) | omega)) (by (try dsimp only) <;> first | assumption | omega | ((try simp (disch := omega) only [w32_of, w64_of, w8_of]) <;> first | assumption | omega | (split <;> omega) | (refine And.intro ?_ ?_ <;> split <;> omega)) | omega)) ?_
              rintro ⟨x_39, σ_38⟩ - y33
              try dsimp only at y33 ⊢
              obtain ⟨hσ_38, flσ_38, g31, g32⟩ := y33
              have frσ_38 : FC [49920, 50176, 50432, 50688, 50944, (kE_size 194), kN_keyCount, kN_keys, kN_lengthless] [] σ σ_38 := FC_tr frσ_28 flσ_38 (by first | decide | (rcases hE with rfl | rfl | rfl <;> decide)) (by first | decide | (rcases hE with rfl | rfl | rfl <;> decide)) (by simp) (by simp)
              try simp (disch := omega) only [w32_of, w64_of, w8_of] at g31
              try simp (disch := omega) only [w32_of, w64_of, w8_of] at g32
              refine wp_if (fun c34 => ?_) (fun c34 => ?_)
              · try simp (disch := omega) only [w32_of, w64_of, w8_of, decide_eq_true_eq, decide_eq_false_iff_not, Bool.not_eq_true] at c34
                exact wp_some (x_inl ⟨⟨hσ_38, frσ_38, (by (try dsimp only) <;> first | assumption | omega | ((try simp (disch := omega) only [w32_of, w64_of, w8_of]) <;> first | assumption | omega | (split <;> omega) | (refine And.intro ?_ ?_ <;> split <;> omega)) | omega), g31, g32⟩, (by (try dsimp only) <;> first | assumption | omega | ((try simp (disch := omega) only [w32_of, w64_of, w8_of]) <;> first | assumption | omega | (split <;> omega) | (refine And.intro ?_ ?_ <;> split <;> omega)) | omega)⟩)
              · try simp (disch := omega) only [w32_of, w64_of, w8_of, decide_eq_true_eq, decide_eq_false_iff_not, Bool.not_eq_true] at c34
                exact wp_some (x_inr (x_inr (x_inr (x_inr (x_inr (x_inr ⟨hσ_38, frσ_38, g31, g32⟩))))))
            · try simp (disch := omega) only [w32_of, w64_of, w8_of, decide_eq_true_eq, decide_eq_false_iff_not, Bool.not_eq_true] at c25
              exact wp_some (x_inr (x_inl ⟨hσ_28, frσ_28, g22, g23⟩))
          rintro ⟨i_43, σ_44⟩ y37
          try dsimp only at y37 ⊢
          obtain ⟨hσ_44, frσ_44, g35, g36⟩ := y37
          exact wp_some (x_inl ⟨⟨hσ_44, frσ_44, (by (try dsimp only) <;> first | assumption | omega | ((try simp (disch := omega) only [w32_of, w64_of, w8_of]) <;> first | assumption | omega | (split <;> omega) | (refine And.intro ?_ ?_ <;> split <;> omega)) | omega), (by (try dsimp only) <;> (first | (rw [rS_0]; omega) | omega)), g35, g36⟩, (by (try dsimp only) <;> first | assumption | omega | ((try simp (disch := omega) only [w32_of, w64_of, w8_of]) <;> first | assumption | omega | (split <;> omega) | (refine And.intro ?_ ?_ <;> split <;> omega)) | omega)⟩)
        · try simp (disch := omega) only [w32_of, w64_of, w8_of, decide_eq_true_eq, decide_eq_false_iff_not, Bool.not_eq_true] at c16
          have hz : row_13 = rN (σ (kA_plan shape_0)) at_2 := by omega
          rw [hz, hRe.1] at hfr
          exact wp_some (x_inr (x_inl ⟨hσ_14, frσ_14, (by (try dsimp only) <;> (omega)), g11, g12⟩))
      rintro ⟨from_48, row_49, σ_50⟩ y40
      try dsimp only at y40 ⊢
      obtain ⟨hσ_50, frσ_50, hfe, g38, g39⟩ := y40
      refine wp_bd (s_A_behind (σ := σ_50) (this_0 := shape_0) (at_0 := at_2) hσ_50 (by first | assumption | decide | omega) (ENa_f frσ_50 (by first | assumption | decide | omega) (NS_0 _) he)) ?_
      rintro x_52 - hbh
      try simp only [FC_plan (t := shape_0) frσ_50 (by first | assumption | decide | omega) (NS_0 _)] at hbh
      try simp (disch := omega) only [w32_of, w64_of, w8_of] at hbh
      exact wp_some (x_inl ⟨⟨hσ_50, frσ_50, (by (try dsimp only) <;> (first | assumption | exact FLa_0 w0 | (rw [hbh, hfe]; exact hn))), g38, g39⟩, (by (try dsimp only) <;> first | assumption | omega | ((try simp (disch := omega) only [w32_of, w64_of, w8_of]) <;> first | assumption | omega | (split <;> omega) | (refine And.intro ?_ ?_ <;> split <;> omega)) | omega)⟩)
    · try simp (disch := omega) only [w32_of, w64_of, w8_of, decide_eq_true_eq, decide_eq_false_iff_not, Bool.not_eq_true] at c4
      exact wp_some (x_inr (x_inl ⟨hσ_3, frσ_3, g1, g2⟩))
  rintro ⟨from_56, at_57, σ_58⟩ y43
  try dsimp only at y43 ⊢
  obtain ⟨hσ_58, frσ_58, g41, g42⟩ := y43
  exact wp_some ⟨hσ_58, frσ_58, g41, g42⟩
theorem s_N_addCrossings {σ : SG} (hσ : II σ) (w0 : KYs σ) (w1 : SNc σ) : wp_ (fN_addCrossings σ) (fun zz_ => II zz_.2 ∧ FC [(kE_placeX 194), (kE_placeY 194), kN_keyCount, kN_keys, kN_order] [] σ zz_.2 ∧ (KYs zz_.2)) := by
  unfold fN_addCrossings
  have bz := iiE_size (s := 194) hσ (by decide) 0
  refine wp_bd (P := fun rr_ => II rr_.2 ∧ FC [(kE_placeX 194), (kE_placeY 194), kN_keyCount, kN_keys, kN_order] [] σ rr_.2 ∧ (ORs rr_.2 (σ (kE_size 194) 0) (σ (kE_size 194) 0)) ∧ (KYs rr_.2)) ?_ ?_
  · have c1 := iiE_size (s := 194) hσ (by decide) 0
    refine wp_whl (fun ss_ => II ss_.2 ∧ FC [(kE_placeX 194), (kE_placeY 194), kN_keyCount, kN_keys, kN_order] [] σ ss_.2 ∧ (0 ≤ ss_.1 ∧ ss_.1 ≤ σ (kE_size 194) 0) ∧ (ORs ss_.2 ss_.1 (σ (kE_size 194) 0)) ∧ (KYs ss_.2)) (fun ss_ => (σ (kE_size 194) 0 - ss_.1).toNat) ⟨hσ, (FC_refl _ _ _), (by (try dsimp only) <;> first | assumption | omega | ((try simp (disch := omega) only [w32_of, w64_of, w8_of]) <;> first | assumption | omega | (split <;> omega) | (refine And.intro ?_ ?_ <;> split <;> omega)) | omega), (by (try dsimp only) <;> (first | exact ORs_0 _ _ | exact ORs_add ho2 eσ_13 (by omega) (by omega) (by omega))), w0⟩ ?_
    rintro ⟨i_1, σ_2⟩ y4
    try dsimp only at y4 ⊢
    obtain ⟨hσ_2, frσ_2, g2, ho2, g3⟩ := y4
    have c6 := w32_rng i_1
    have c7 := iiE_size (s := 194) hσ_2 (by decide) 0
    have c8 := FC_at frσ_2 (c := (kE_size 194)) (by first | decide | (rcases hE with rfl | rfl | rfl <;> decide)) 0
    have c9 := w32_rng (σ_2 (kE_size 194) 0)
    refine wp_if (fun c5 => ?_) (fun c5 => ?_)
    · try simp (disch := omega) only [w32_of, w64_of, w8_of, decide_eq_true_eq, decide_eq_false_iff_not, Bool.not_eq_true] at c5
      have c10 : ((gsz 194 : Nat) : Int) = 2048 := by decide
      refine wp_bd (s_E_lowX (σ := σ_2) (this_0 := 194) (i_0 := i_1) hσ_2 (by decide) (by (try dsimp only) <;> first | assumption | omega | ((try simp (disch := omega) only [w32_of, w64_of, w8_of]) <;> first | assumption | omega | (split <;> omega) | (refine And.intro ?_ ?_ <;> split <;> omega)) | omega)) ?_
      rintro x_12 - g11
      try simp (disch := omega) only [w32_of, w64_of, w8_of] at g11
      have c12 := w32_rng x_12
      refine wp_waN hσ_2 b_kN_order (by (try dsimp only) <;> first | assumption | omega | ((try simp (disch := omega) only [w32_of, w64_of, w8_of]) <;> first | assumption | omega | (split <;> omega) | (refine And.intro ?_ ?_ <;> split <;> omega)) | omega) (by (try dsimp only) <;> first | assumption | omega | ((try simp (disch := omega) only [w32_of, w64_of, w8_of]) <;> first | assumption | omega | (split <;> omega) | (refine And.intro ?_ ?_ <;> split <;> omega)) | omega) (fun σ_13 hσ_13 eσ_13 => ?_)
      try simp (disch := omega) only [w32_of, w64_of, w8_of] at eσ_13
      have flσ_13 := FC_sg eσ_13 (by first | decide | (rcases hE with rfl | rfl | rfl <;> decide))
      have frσ_13 : FC [(kE_placeX 194), (kE_placeY 194), kN_keyCount, kN_keys, kN_order] [] σ σ_13 := FC_tr frσ_2 flσ_13 (by first | decide | (rcases hE with rfl | rfl | rfl <;> decide)) (by first | decide | (rcases hE with rfl | rfl | rfl <;> decide)) (by simp) (by simp)
      exact wp_some (x_inl ⟨⟨hσ_13, frσ_13, (by (try dsimp only) <;> first | assumption | omega | ((try simp (disch := omega) only [w32_of, w64_of, w8_of]) <;> first | assumption | omega | (split <;> omega) | (refine And.intro ?_ ?_ <;> split <;> omega)) | omega), (by (try dsimp only) <;> (first | exact ORs_0 _ _ | exact ORs_add ho2 eσ_13 (by omega) (by omega) (by omega))), (KYs_f flσ_13 (by decide) g3)⟩, (by (try dsimp only) <;> first | assumption | omega | ((try simp (disch := omega) only [w32_of, w64_of, w8_of]) <;> first | assumption | omega | (split <;> omega) | (refine And.intro ?_ ?_ <;> split <;> omega)) | omega)⟩)
    · try simp (disch := omega) only [w32_of, w64_of, w8_of, decide_eq_true_eq, decide_eq_false_iff_not, Bool.not_eq_true] at c5
      exact wp_some (x_inr ⟨hσ_2, frσ_2, (by (try dsimp only) <;> (rw [show σ (kE_size 194) 0 = i_1 by omega] at ho2 ⊢; exact ho2)), g3⟩)
  rintro ⟨i_17, σ_18⟩ _ y16
  try dsimp only at y16 ⊢
  obtain ⟨hσ_18, frσ_18, ho18, g15⟩ := y16
  have c17 := iiE_size (s := 194) hσ_18 (by decide) 0
  have c18 := FC_at frσ_18 (c := (kE_size 194)) (by first | decide | (rcases hE with rfl | rfl | rfl <;> decide)) 0
  have c19 := iiE_size (s := 194) hσ (by decide) 0
  refine wp_bd (v_sortRow (σ := σ_18) (row_0 := 201) (row_n := 16384) (size_0 := (σ_18 (kE_size 194) 0)) hσ_18 (by decide) (by decide) (by (try dsimp only) <;> first | assumption | omega | ((try simp (disch := omega) only [w32_of, w64_of, w8_of]) <;> first | assumption | omega | (split <;> omega) | (refine And.intro ?_ ?_ <;> split <;> omega)) | omega)) ?_
  rintro σ_20 - ⟨hσ_20, flσ_20, hsb⟩
  have frσ_20 : FC [(kE_placeX 194), (kE_placeY 194), kN_keyCount, kN_keys, kN_order] [] σ σ_20 := FC_tr frσ_18 flσ_20 (by first | decide | (rcases hE with rfl | rfl | rfl <;> decide)) (by first | decide | (rcases hE with rfl | rfl | rfl <;> decide)) (by simp) (by simp)
  try simp (disch := omega) only [w32_of, w64_of, w8_of] at hsb
  have ho20 : ORs σ_20 (σ (kE_size 194) 0) (σ (kE_size 194) 0) := ORs_sb (by rw [show σ_18 (kE_size 194) 0 = σ (kE_size 194) 0 from FC_at frσ_18 (c := (kE_size 194)) (by decide) 0] at hsb; exact ho18) (by rw [show σ_18 (kE_size 194) 0 = σ (kE_size 194) 0 from FC_at frσ_18 (c := (kE_size 194)) (by decide) 0] at hsb; exact hsb)
  refine wp_bx (P := fun rr_ => II rr_.2 ∧ FC [(kE_placeX 194), (kE_placeY 194), kN_keyCount, kN_keys, kN_order] [] σ rr_.2 ∧ (KYs rr_.2)) ?_ ?_
  · refine wp_whl (fun ss_ => II ss_.2 ∧ FC [(kE_placeX 194), (kE_placeY 194), kN_keyCount, kN_keys, kN_order] [] σ ss_.2 ∧ (0 ≤ ss_.1 ∧ ss_.1 ≤ 2048) ∧ (ORs ss_.2 (σ (kE_size 194) 0) (σ (kE_size 194) 0)) ∧ (KYs ss_.2)) (fun ss_ => (2049 - ss_.1).toNat) ⟨hσ_20, frσ_20, (by (try dsimp only) <;> first | assumption | omega | ((try simp (disch := omega) only [w32_of, w64_of, w8_of]) <;> first | assumption | omega | (split <;> omega) | (refine And.intro ?_ ?_ <;> split <;> omega)) | omega), (by (try dsimp only) <;> (first | assumption)), (KYs_f flσ_20 (by decide) g15)⟩ ?_
    rintro ⟨a_21, σ_22⟩ y22
    try dsimp only at y22 ⊢
    obtain ⟨hσ_22, frσ_22, g20, ho22, g21⟩ := y22
    have c24 := w32_rng a_21
    have c25 := iiE_size (s := 194) hσ_22 (by decide) 0
    have c26 := FC_at frσ_22 (c := (kE_size 194)) (by first | decide | (rcases hE with rfl | rfl | rfl <;> decide)) 0
    have c27 := w32_rng (σ_22 (kE_size 194) 0)
    refine wp_if (fun c23 => ?_) (fun c23 => ?_)
    · try simp (disch := omega) only [w32_of, w64_of, w8_of, decide_eq_true_eq, decide_eq_false_iff_not, Bool.not_eq_true] at c23
      refine wp_rdI (by (try dsimp only) <;> first | assumption | omega | ((try simp (disch := omega) only [w32_of, w64_of, w8_of]) <;> first | assumption | omega | (split <;> omega) | (refine And.intro ?_ ?_ <;> split <;> omega)) | omega) (by (try dsimp only) <;> first | assumption | omega | ((try simp (disch := omega) only [w32_of, w64_of, w8_of]) <;> first | assumption | omega | (split <;> omega) | (refine And.intro ?_ ?_ <;> split <;> omega)) | omega) (fun x_31 e_x_31 => ?_)
      try simp (disch := omega) only [w32_of, w64_of, w8_of] at e_x_31
      have hoa := ho22 a_21 (by omega) (by omega)
      rw [← e_x_31] at hoa
      have c28 : ((gsz 194 : Nat) : Int) = 2048 := by decide
      refine wp_bd (s_E_highX (σ := σ_22) (this_0 := 194) (i_0 := x_31) hσ_22 (by decide) (by (try dsimp only) <;> first | assumption | omega | ((try simp (disch := omega) only [w32_of, w64_of, w8_of]) <;> first | assumption | omega | (split <;> omega) | (refine And.intro ?_ ?_ <;> split <;> omega)) | omega)) ?_
      rintro x_34 - g29
      try simp (disch := omega) only [w32_of, w64_of, w8_of] at g29
      refine wp_bx (P := fun rr_ => II rr_.2 ∧ FC [(kE_placeX 194), (kE_placeY 194), kN_keyCount, kN_keys, kN_order] [] σ rr_.2 ∧ (ORs rr_.2 (σ (kE_size 194) 0) (σ (kE_size 194) 0)) ∧ (KYs rr_.2)) ?_ ?_
      · refine wp_whl (fun ss_ => II ss_.2 ∧ FC [(kE_placeX 194), (kE_placeY 194), kN_keyCount, kN_keys, kN_order] [] σ ss_.2 ∧ (0 ≤ ss_.1 ∧ ss_.1 ≤ 2049) ∧ (ORs ss_.2 (σ (kE_size 194) 0) (σ (kE_size 194) 0)) ∧ (KYs ss_.2)) (fun ss_ => (2050 - ss_.1).toNat) ⟨hσ_22, frσ_22, (by (try dsimp only) <;> first | assumption | omega | ((try simp (disch := omega) only [w32_of, w64_of, w8_of]) <;> first | assumption | omega | (split <;> omega) | (refine And.intro ?_ ?_ <;> split <;> omega)) | omega), (by (try dsimp only) <;> (first | assumption | exact ORs_f flσ_71 (by decide) ho36 | exact ORs_f flσ_75 (by decide) (ORs_f flσ_71 (by decide) ho36))), g21⟩ ?_
        rintro ⟨b_35, σ_36⟩ y32
        try dsimp only at y32 ⊢
        obtain ⟨hσ_36, frσ_36, g30, ho36, g31⟩ := y32
        have c34 := w32_rng b_35
        have c35 := iiE_size (s := 194) hσ_36 (by decide) 0
        have c36 := FC_at frσ_36 (c := (kE_size 194)) (by first | decide | (rcases hE with rfl | rfl | rfl <;> decide)) 0
        have c37 := w32_rng (σ_36 (kE_size 194) 0)
        refine wp_if (fun c33 => ?_) (fun c33 => ?_)
        · try simp (disch := omega) only [w32_of, w64_of, w8_of, decide_eq_true_eq, decide_eq_false_iff_not, Bool.not_eq_true] at c33
          refine wp_rdI (by (try dsimp only) <;> first | assumption | omega | ((try simp (disch := omega) only [w32_of, w64_of, w8_of]) <;> first | assumption | omega | (split <;> omega) | (refine And.intro ?_ ?_ <;> split <;> omega)) | omega) (by (try dsimp only) <;> first | assumption | omega | ((try simp (disch := omega) only [w32_of, w64_of, w8_of]) <;> first | assumption | omega | (split <;> omega) | (refine And.intro ?_ ?_ <;> split <;> omega)) | omega) (fun x_53 e_x_53 => ?_)
          try simp (disch := omega) only [w32_of, w64_of, w8_of] at e_x_53
          have c39 := q_lsr_rng x_53 32
          have c40 := w64_rng (q_lsr x_53 32)
          have c41 := w32_rng x_34
          have c42 := w64_rng (w32 x_34)
          refine wp_if (fun c38 => ?_) (fun c38 => ?_)
          · try simp (disch := omega) only [w32_of, w64_of, w8_of, decide_eq_true_eq, decide_eq_false_iff_not, Bool.not_eq_true] at c38
            refine wp_rdI (by (try dsimp only) <;> first | assumption | omega | ((try simp (disch := omega) only [w32_of, w64_of, w8_of]) <;> first | assumption | omega | (split <;> omega) | (refine And.intro ?_ ?_ <;> split <;> omega)) | omega) (by (try dsimp only) <;> first | assumption | omega | ((try simp (disch := omega) only [w32_of, w64_of, w8_of]) <;> first | assumption | omega | (split <;> omega) | (refine And.intro ?_ ?_ <;> split <;> omega)) | omega) (fun x_56 e_x_56 => ?_)
            try simp (disch := omega) only [w32_of, w64_of, w8_of] at e_x_56
            have hob := ho36 b_35 (by omega) (by omega)
            rw [← e_x_56] at hob
            have c43 : ((gsz 194 : Nat) : Int) = 2048 := by decide
            have c44 : ((gsz 194 : Nat) : Int) = 2048 := by decide
            refine wp_bd (s_E_meet (σ := σ_36) (this_0 := 194) (i_0 := x_31) (j_0 := x_56) hσ_36 (by decide) (by (try dsimp only) <;> first | assumption | omega | ((try simp (disch := omega) only [w32_of, w64_of, w8_of]) <;> first | assumption | omega | (split <;> omega) | (refine And.intro ?_ ?_ <;> split <;> omega)) | omega) (by (try dsimp only) <;> first | assumption | omega | ((try simp (disch := omega) only [w32_of, w64_of, w8_of]) <;> first | assumption | omega | (split <;> omega) | (refine And.intro ?_ ?_ <;> split <;> omega)) | omega)) ?_
            rintro ⟨x_72, σ_71⟩ - y45
            try dsimp only at y45 ⊢
            obtain ⟨hσ_71, flσ_71, hm1, hm2⟩ := y45
            have frσ_71 : FC [(kE_placeX 194), (kE_placeY 194), kN_keyCount, kN_keys, kN_order] [] σ σ_71 := FC_tr frσ_36 flσ_71 (by first | decide | (rcases hE with rfl | rfl | rfl <;> decide)) (by first | decide | (rcases hE with rfl | rfl | rfl <;> decide)) (by simp) (by simp)
            try simp (disch := omega) only [w32_of, w64_of, w8_of] at hm1
            try simp (disch := omega) only [w32_of, w64_of, w8_of] at hm2
            have c47 := w32_rng x_72
            refine wp_if (fun c46 => ?_) (fun c46 => ?_)
            · try simp (disch := omega) only [w32_of, w64_of, w8_of, decide_eq_true_eq, decide_eq_false_iff_not, Bool.not_eq_true] at c46
              have c48 := iiE_size (s := 194) hσ_71 (by decide) 0
              have c49 := FC_at flσ_71 (c := (kE_size 194)) (by first | decide | (rcases hE with rfl | rfl | rfl <;> decide)) 0
              refine wp_bd (s_N_addCrossing (σ := σ_71) (i_0 := x_31) (j_0 := x_56) hσ_71 (KYs_f flσ_71 (by decide) g31) (SNc_f flσ_71 (by decide) (SNc_f frσ_36 (by decide) w1)) (by (try dsimp only) <;> first | assumption | omega | ((try simp (disch := omega) only [w32_of, w64_of, w8_of]) <;> first | assumption | omega | (split <;> omega) | (refine And.intro ?_ ?_ <;> split <;> omega)) | omega) (by (try dsimp only) <;> first | assumption | omega | ((try simp (disch := omega) only [w32_of, w64_of, w8_of]) <;> first | assumption | omega | (split <;> omega) | (refine And.intro ?_ ?_ <;> split <;> omega)) | omega) (by exact PCE_f flσ_71 (by decide) (hm2 (by have q := w32_of (x := x_72) (by omega) (by omega); omega)))) ?_
              rintro ⟨x_76, σ_75⟩ - y51
              try dsimp only at y51 ⊢
              obtain ⟨hσ_75, flσ_75, g50⟩ := y51
              have frσ_75 : FC [(kE_placeX 194), (kE_placeY 194), kN_keyCount, kN_keys, kN_order] [] σ σ_75 := FC_tr frσ_71 flσ_75 (by first | decide | (rcases hE with rfl | rfl | rfl <;> decide)) (by first | decide | (rcases hE with rfl | rfl | rfl <;> decide)) (by simp) (by simp)
              try simp (disch := omega) only [w32_of, w64_of, w8_of] at g50
              refine wp_if (fun c52 => ?_) (fun c52 => ?_)
              · try simp (disch := omega) only [w32_of, w64_of, w8_of, decide_eq_true_eq, decide_eq_false_iff_not, Bool.not_eq_true] at c52
                exact wp_some (x_inl ⟨⟨hσ_75, frσ_75, (by (try dsimp only) <;> first | assumption | omega | ((try simp (disch := omega) only [w32_of, w64_of, w8_of]) <;> first | assumption | omega | (split <;> omega) | (refine And.intro ?_ ?_ <;> split <;> omega)) | omega), (by (try dsimp only) <;> (first | assumption | exact ORs_f flσ_71 (by decide) ho36 | exact ORs_f flσ_75 (by decide) (ORs_f flσ_71 (by decide) ho36))), g50⟩, (by (try dsimp only) <;> first | assumption | omega | ((try simp (disch := omega) only [w32_of, w64_of, w8_of]) <;> first | assumption | omega | (split <;> omega) | (refine And.intro ?_ ?_ <;> split <;> omega)) | omega)⟩)
              · try simp (disch := omega) only [w32_of, w64_of, w8_of, decide_eq_true_eq, decide_eq_false_iff_not, Bool.not_eq_true] at c52
                exact wp_some (x_inr (x_inr (x_inr (x_inr ⟨hσ_75, frσ_75, g50⟩))))
            · try simp (disch := omega) only [w32_of, w64_of, w8_of, decide_eq_true_eq, decide_eq_false_iff_not, Bool.not_eq_true] at c46
              exact wp_some (x_inl ⟨⟨hσ_71, frσ_71, (by (try dsimp only) <;> first | assumption | omega | ((try simp (disch := omega) only [w32_of, w64_of, w8_of]) <;> first | assumption | omega | (split <;> omega) | (refine And.intro ?_ ?_ <;> split <;> omega)) | omega), (by (try dsimp only) <;> (first | assumption | exact ORs_f flσ_71 (by decide) ho36 | exact ORs_f flσ_75 (by decide) (ORs_f flσ_71 (by decide) ho36))), (KYs_f flσ_71 (by decide) g31)⟩, (by (try dsimp only) <;> first | assumption | omega | ((try simp (disch := omega) only [w32_of, w64_of, w8_of]) <;> first | assumption | omega | (split <;> omega) | (refine And.intro ?_ ?_ <;> split <;> omega)) | omega)⟩)
          · try simp (disch := omega) only [w32_of, w64_of, w8_of, decide_eq_true_eq, decide_eq_false_iff_not, Bool.not_eq_true] at c38
            exact wp_some (x_inr (x_inl ⟨hσ_36, frσ_36, (by (try dsimp only) <;> (exact ho36)), g31⟩))
        · try simp (disch := omega) only [w32_of, w64_of, w8_of, decide_eq_true_eq, decide_eq_false_iff_not, Bool.not_eq_true] at c33
          exact wp_some (x_inr (x_inl ⟨hσ_36, frσ_36, (by (try dsimp only) <;> (exact ho36)), g31⟩))
      rintro ⟨b_82, σ_83⟩ y55
      try dsimp only at y55 ⊢
      obtain ⟨hσ_83, frσ_83, g53, g54⟩ := y55
      exact wp_some (x_inl ⟨⟨hσ_83, frσ_83, (by (try dsimp only) <;> first | assumption | omega | ((try simp (disch := omega) only [w32_of, w64_of, w8_of]) <;> first | assumption | omega | (split <;> omega) | (refine And.intro ?_ ?_ <;> split <;> omega)) | omega), (by (try dsimp only) <;> (first | assumption)), g54⟩, (by (try dsimp only) <;> first | assumption | omega | ((try simp (disch := omega) only [w32_of, w64_of, w8_of]) <;> first | assumption | omega | (split <;> omega) | (refine And.intro ?_ ?_ <;> split <;> omega)) | omega)⟩)
    · try simp (disch := omega) only [w32_of, w64_of, w8_of, decide_eq_true_eq, decide_eq_false_iff_not, Bool.not_eq_true] at c23
      exact wp_some (x_inr (x_inl ⟨hσ_22, frσ_22, g21⟩))
  rintro ⟨a_87, σ_88⟩ y57
  try dsimp only at y57 ⊢
  obtain ⟨hσ_88, frσ_88, g56⟩ := y57
  exact wp_some ⟨hσ_88, frσ_88, g56⟩
theorem s_N_firstHotFrom {σ : SG} {x_0 : Int} (hσ : II σ) : wp_ (fN_firstHotFrom σ x_0) (fun zz_ => (0 ≤ zz_ ∧ zz_ ≤ σ kN_hot 0)) := by
  unfold fN_firstHotFrom
  refine wp_bd (P := fun rr_ => (0 ≤ rr_.1 ∧ rr_.1 ≤ σ kN_hot 0)) ?_ ?_
  · have c1 := ii_kN_hot hσ 0
    refine wp_whl (fun ss_ => (0 ≤ ss_.1 ∧ ss_.1 ≤ ss_.2 ∧ ss_.2 ≤ σ kN_hot 0)) (fun ss_ => (ss_.2 - ss_.1).toNat) (by (try dsimp only) <;> first | assumption | omega | ((try simp (disch := omega) only [w32_of, w64_of, w8_of]) <;> first | assumption | omega | (split <;> omega) | (refine And.intro ?_ ?_ <;> split <;> omega)) | omega) ?_
    rintro ⟨low_1, high_2⟩ y3
    try dsimp only at y3 ⊢
    have g2 := y3
    have c5 := w32_rng low_1
    have c6 := w32_rng high_2
    refine wp_if (fun c4 => ?_) (fun c4 => ?_)
    · try simp (disch := omega) only [w32_of, w64_of, w8_of, decide_eq_true_eq, decide_eq_false_iff_not, Bool.not_eq_true] at c4
      refine wp_bd (P := fun rr_ => (0 ≤ rr_.1 ∧ rr_.1 ≤ rr_.2 ∧ rr_.2 ≤ high_2 ∧ low_1 ≤ rr_.1 ∧ (low_1 < rr_.1 ∨ rr_.2 < high_2))) ?_ ?_
      · have c7 := q_idv2 (high_2 - low_1) (by (try dsimp only) <;> first | assumption | omega | ((try simp (disch := omega) only [w32_of, w64_of, w8_of]) <;> first | assumption | omega | (split <;> omega) | (refine And.intro ?_ ?_ <;> split <;> omega)) | omega)
        try simp (disch := omega) only [w32_of, w64_of, w8_of] at c7
        have c8 := w32_rng (low_1 + (q_idv (high_2 - low_1) 2))
        refine wp_rdI (by (try dsimp only) <;> first | assumption | omega | ((try simp (disch := omega) only [w32_of, w64_of, w8_of]) <;> first | assumption | omega | (split <;> omega) | (refine And.intro ?_ ?_ <;> split <;> omega)) | omega) (by (try dsimp only) <;> first | assumption | omega | ((try simp (disch := omega) only [w32_of, w64_of, w8_of]) <;> first | assumption | omega | (split <;> omega) | (refine And.intro ?_ ?_ <;> split <;> omega)) | omega) (fun x_15 e_x_15 => ?_)
        have b_x_15 : (-1000000000) ≤ x_15 ∧ x_15 ≤ 1000000000 := by rw [e_x_15]; exact ii_kN_hotX hσ _
        try simp (disch := omega) only [w32_of, w64_of, w8_of] at e_x_15
        have c9 := ii_kN_hotX hσ (low_1 + (q_idv (high_2 - low_1) 2))
        have c11 := w32_rng x_15
        have c12 := w32_rng x_0
        refine wp_if (fun c10 => ?_) (fun c10 => ?_)
        · try simp (disch := omega) only [w32_of, w64_of, w8_of, decide_eq_true_eq, decide_eq_false_iff_not, Bool.not_eq_true] at c10
          exact wp_some (by (try dsimp only) <;> first | assumption | omega | ((try simp (disch := omega) only [w32_of, w64_of, w8_of]) <;> first | assumption | omega | (split <;> omega) | (refine And.intro ?_ ?_ <;> split <;> omega)) | omega)
        · try simp (disch := omega) only [w32_of, w64_of, w8_of, decide_eq_true_eq, decide_eq_false_iff_not, Bool.not_eq_true] at c10
          exact wp_some (by (try dsimp only) <;> first | assumption | omega | ((try simp (disch := omega) only [w32_of, w64_of, w8_of]) <;> first | assumption | omega | (split <;> omega) | (refine And.intro ?_ ?_ <;> split <;> omega)) | omega)
      rintro ⟨low_20, high_21⟩ _ y14
      try dsimp only at y14 ⊢
      have g13 := y14
      exact wp_some (x_inl ⟨(by (try dsimp only) <;> first | assumption | omega | ((try simp (disch := omega) only [w32_of, w64_of, w8_of]) <;> first | assumption | omega | (split <;> omega) | (refine And.intro ?_ ?_ <;> split <;> omega)) | omega), (by (try dsimp only) <;> first | assumption | omega | ((try simp (disch := omega) only [w32_of, w64_of, w8_of]) <;> first | assumption | omega | (split <;> omega) | (refine And.intro ?_ ?_ <;> split <;> omega)) | omega)⟩)
    · try simp (disch := omega) only [w32_of, w64_of, w8_of, decide_eq_true_eq, decide_eq_false_iff_not, Bool.not_eq_true] at c4
      exact wp_some (x_inr (by (try dsimp only) <;> first | assumption | omega | ((try simp (disch := omega) only [w32_of, w64_of, w8_of]) <;> first | assumption | omega | (split <;> omega) | (refine And.intro ?_ ?_ <;> split <;> omega)) | omega))
  rintro ⟨low_25, high_26⟩ _ y16
  try dsimp only at y16 ⊢
  have g15 := y16
  have c17 := ii_kN_hot hσ 0
  exact wp_some (by (try dsimp only) <;> first | assumption | omega | ((try simp (disch := omega) only [w32_of, w64_of, w8_of]) <;> first | assumption | omega | (split <;> omega) | (refine And.intro ?_ ?_ <;> split <;> omega)) | omega)
theorem s_N_moveToFront {σ : SG} {first_0 : Int} {last_0 : Int} (hσ : II σ) (w0 : 0 ≤ first_0 ∧ first_0 ≤ last_0 ∧ last_0 ≤ 8191) : wp_ (fN_moveToFront σ first_0 last_0) (fun zz_ => II zz_ ∧ FC [kN_chain] [] σ zz_ ∧ (SB kN_chain (last_0 + 1) σ zz_)) := by
  unfold fN_moveToFront
  have sb0 : SB kN_chain (last_0 + 1) σ σ := SB_refl _ _ _
  have c1 := w32_rng last_0
  refine wp_rdI (by (try dsimp only) <;> first | assumption | omega | ((try simp (disch := omega) only [w32_of, w64_of, w8_of]) <;> first | assumption | omega | (split <;> omega) | (refine And.intro ?_ ?_ <;> split <;> omega)) | omega) (by (try dsimp only) <;> first | assumption | omega | ((try simp (disch := omega) only [w32_of, w64_of, w8_of]) <;> first | assumption | omega | (split <;> omega) | (refine And.intro ?_ ?_ <;> split <;> omega)) | omega) (fun x_1 e_x_1 => ?_)
  have b_x_1 : 0 ≤ x_1 ∧ x_1 ≤ 8191 := by rw [e_x_1]; exact ii_kN_chain hσ _
  try simp (disch := omega) only [w32_of, w64_of, w8_of] at e_x_1
  have c2 := ii_kN_chain hσ last_0
  refine wp_bd (P := fun rr_ => II rr_.2 ∧ FC [kN_chain] [] σ rr_.2 ∧ (SB kN_chain (last_0 + 1) σ rr_.2)) ?_ ?_
  · refine wp_whl (fun ss_ => II ss_.2 ∧ FC [kN_chain] [] σ ss_.2 ∧ (first_0 ≤ ss_.1 ∧ ss_.1 ≤ last_0) ∧ (SB kN_chain (last_0 + 1) σ ss_.2)) (fun ss_ => ss_.1.toNat) ⟨hσ, (FC_refl _ _ _), (by (try dsimp only) <;> first | assumption | omega | ((try simp (disch := omega) only [w32_of, w64_of, w8_of]) <;> first | assumption | omega | (split <;> omega) | (refine And.intro ?_ ?_ <;> split <;> omega)) | omega), (by (try dsimp only) <;> (first | exact sb0 | exact SB_mv hsb (by rw [eσ_15, e_x_13]) (by omega) (by omega) (by omega) (by omega)))⟩ ?_
    rintro ⟨k_3, σ_4⟩ y4
    try dsimp only at y4 ⊢
    obtain ⟨hσ_4, frσ_4, g3, hsb⟩ := y4
    have c6 := w32_rng first_0
    have c7 := w32_rng k_3
    refine wp_if (fun c5 => ?_) (fun c5 => ?_)
    · try simp (disch := omega) only [w32_of, w64_of, w8_of, decide_eq_true_eq, decide_eq_false_iff_not, Bool.not_eq_true] at c5
      have c8 := w32_rng (k_3 - 1)
      refine wp_rdI (by (try dsimp only) <;> first | assumption | omega | ((try simp (disch := omega) only [w32_of, w64_of, w8_of]) <;> first | assumption | omega | (split <;> omega) | (refine And.intro ?_ ?_ <;> split <;> omega)) | omega) (by (try dsimp only) <;> first | assumption | omega | ((try simp (disch := omega) only [w32_of, w64_of, w8_of]) <;> first | assumption | omega | (split <;> omega) | (refine And.intro ?_ ?_ <;> split <;> omega)) | omega) (fun x_13 e_x_13 => ?_)
      have b_x_13 : 0 ≤ x_13 ∧ x_13 ≤ 8191 := by rw [e_x_13]; exact ii_kN_chain hσ_4 _
      try simp (disch := omega) only [w32_of, w64_of, w8_of] at e_x_13
      have c9 := ii_kN_chain hσ_4 (k_3 - 1)
      refine wp_waI hσ_4 b_kN_chain (by (try dsimp only) <;> first | assumption | omega | ((try simp (disch := omega) only [w32_of, w64_of, w8_of]) <;> first | assumption | omega | (split <;> omega) | (refine And.intro ?_ ?_ <;> split <;> omega)) | omega) (by (try dsimp only) <;> first | assumption | omega | ((try simp (disch := omega) only [w32_of, w64_of, w8_of]) <;> first | assumption | omega | (split <;> omega) | (refine And.intro ?_ ?_ <;> split <;> omega)) | omega) (by (try dsimp only) <;> first | assumption | omega | ((try simp (disch := omega) only [w32_of, w64_of, w8_of]) <;> first | assumption | omega | (split <;> omega) | (refine And.intro ?_ ?_ <;> split <;> omega)) | omega) (fun σ_15 hσ_15 eσ_15 => ?_)
      try simp (disch := omega) only [w32_of, w64_of, w8_of] at eσ_15
      have flσ_15 := FC_sg eσ_15 (by first | decide | (rcases hE with rfl | rfl | rfl <;> decide))
      have frσ_15 : FC [kN_chain] [] σ σ_15 := FC_tr frσ_4 flσ_15 (by first | decide | (rcases hE with rfl | rfl | rfl <;> decide)) (by first | decide | (rcases hE with rfl | rfl | rfl <;> decide)) (by simp) (by simp)
      exact wp_some (x_inl ⟨⟨hσ_15, frσ_15, (by (try dsimp only) <;> first | assumption | omega | ((try simp (disch := omega) only [w32_of, w64_of, w8_of]) <;> first | assumption | omega | (split <;> omega) | (refine And.intro ?_ ?_ <;> split <;> omega)) | omega), (by (try dsimp only) <;> (first | exact sb0 | exact SB_mv hsb (by rw [eσ_15, e_x_13]) (by omega) (by omega) (by omega) (by omega)))⟩, (by (try dsimp only) <;> first | assumption | omega | ((try simp (disch := omega) only [w32_of, w64_of, w8_of]) <;> first | assumption | omega | (split <;> omega) | (refine And.intro ?_ ?_ <;> split <;> omega)) | omega)⟩)
    · try simp (disch := omega) only [w32_of, w64_of, w8_of, decide_eq_true_eq, decide_eq_false_iff_not, Bool.not_eq_true] at c5
      exact wp_some (x_inr ⟨hσ_4, frσ_4, (by (try dsimp only) <;> (exact hsb))⟩)
  rintro ⟨k_19, σ_20⟩ _ y10
  try dsimp only at y10 ⊢
  obtain ⟨hσ_20, frσ_20, hsb⟩ := y10
  have c11 := w32_rng first_0
  refine wp_waI hσ_20 b_kN_chain (by (try dsimp only) <;> first | assumption | omega | ((try simp (disch := omega) only [w32_of, w64_of, w8_of]) <;> first | assumption | omega | (split <;> omega) | (refine And.intro ?_ ?_ <;> split <;> omega)) | omega) (by (try dsimp only) <;> first | assumption | omega | ((try simp (disch := omega) only [w32_of, w64_of, w8_of]) <;> first | assumption | omega | (split <;> omega) | (refine And.intro ?_ ?_ <;> split <;> omega)) | omega) (by (try dsimp only) <;> first | assumption | omega | ((try simp (disch := omega) only [w32_of, w64_of, w8_of]) <;> first | assumption | omega | (split <;> omega) | (refine And.intro ?_ ?_ <;> split <;> omega)) | omega) (fun σ_21 hσ_21 eσ_21 => ?_)
  try simp (disch := omega) only [w32_of, w64_of, w8_of] at eσ_21
  have flσ_21 := FC_sg eσ_21 (by first | decide | (rcases hE with rfl | rfl | rfl <;> decide))
  have frσ_21 : FC [kN_chain] [] σ σ_21 := FC_tr frσ_20 flσ_21 (by first | decide | (rcases hE with rfl | rfl | rfl <;> decide)) (by first | decide | (rcases hE with rfl | rfl | rfl <;> decide)) (by simp) (by simp)
  exact wp_some ⟨hσ_21, frσ_21, (by (try dsimp only) <;> (rw [eσ_21]; exact SB_sg hsb (by omega) (by omega) (by omega : 0 ≤ last_0) (by omega) e_x_1))⟩
theorem s_N_layChain {σ : SG} {i_0 : Int} (hσ : II σ) (w0 : 0 ≤ i_0 ∧ i_0 ≤ 2047) : wp_ (fN_layChain σ i_0) (fun zz_ => II zz_.2 ∧ FC [kN_chain] [] σ zz_.2 ∧ (0 ≤ zz_.1 ∧ zz_.1 ≤ 8192) ∧ (CHs zz_.2 zz_.1 (σ kN_hot 0))) := by
  unfold fN_layChain
  refine wp_bd (P := fun rr_ => True) ?_ ?_
  · have c1 := w32_rng i_0
    refine wp_rdI (by (try dsimp only) <;> first | assumption | omega | ((try simp (disch := omega) only [w32_of, w64_of, w8_of]) <;> first | assumption | omega | (split <;> omega) | (refine And.intro ?_ ?_ <;> split <;> omega)) | omega) (by (try dsimp only) <;> first | assumption | omega | ((try simp (disch := omega) only [w32_of, w64_of, w8_of]) <;> first | assumption | omega | (split <;> omega) | (refine And.intro ?_ ?_ <;> split <;> omega)) | omega) (fun x_1 e_x_1 => ?_)
    have b_x_1 : (-1000000000) ≤ x_1 ∧ x_1 ≤ 1000000000 := by rw [e_x_1]; exact iiE_ax (s := 194) hσ (by decide) _
    try simp (disch := omega) only [w32_of, w64_of, w8_of] at e_x_1
    have c2 : (-1000000000) ≤ σ 49920 i_0 ∧ σ 49920 i_0 ≤ 1000000000 := iiE_ax (s := 194) hσ (by decide) i_0
    refine wp_rdI (by (try dsimp only) <;> first | assumption | omega | ((try simp (disch := omega) only [w32_of, w64_of, w8_of]) <;> first | assumption | omega | (split <;> omega) | (refine And.intro ?_ ?_ <;> split <;> omega)) | omega) (by (try dsimp only) <;> first | assumption | omega | ((try simp (disch := omega) only [w32_of, w64_of, w8_of]) <;> first | assumption | omega | (split <;> omega) | (refine And.intro ?_ ?_ <;> split <;> omega)) | omega) (fun x_3 e_x_3 => ?_)
    have b_x_3 : (-1000000000) ≤ x_3 ∧ x_3 ≤ 1000000000 := by rw [e_x_3]; exact iiE_bx (s := 194) hσ (by decide) _
    try simp (disch := omega) only [w32_of, w64_of, w8_of] at e_x_3
    have c3 : (-1000000000) ≤ σ 50432 i_0 ∧ σ 50432 i_0 ≤ 1000000000 := iiE_bx (s := 194) hσ (by decide) i_0
    have c5 := w32_rng x_3
    have c6 := w32_rng x_1
    refine wp_if (fun c4 => ?_) (fun c4 => ?_)
    · try simp (disch := omega) only [w32_of, w64_of, w8_of, decide_eq_true_eq, decide_eq_false_iff_not, Bool.not_eq_true] at c4
      exact wp_some trivial
    · try simp (disch := omega) only [w32_of, w64_of, w8_of, decide_eq_true_eq, decide_eq_false_iff_not, Bool.not_eq_true] at c4
      refine wp_rdI (by (try dsimp only) <;> first | assumption | omega | ((try simp (disch := omega) only [w32_of, w64_of, w8_of]) <;> first | assumption | omega | (split <;> omega) | (refine And.intro ?_ ?_ <;> split <;> omega)) | omega) (by (try dsimp only) <;> first | assumption | omega | ((try simp (disch := omega) only [w32_of, w64_of, w8_of]) <;> first | assumption | omega | (split <;> omega) | (refine And.intro ?_ ?_ <;> split <;> omega)) | omega) (fun x_7 e_x_7 => ?_)
      have b_x_7 : (-1000000000) ≤ x_7 ∧ x_7 ≤ 1000000000 := by rw [e_x_7]; exact iiE_ax (s := 194) hσ (by decide) _
      try simp (disch := omega) only [w32_of, w64_of, w8_of] at e_x_7
      refine wp_rdI (by (try dsimp only) <;> first | assumption | omega | ((try simp (disch := omega) only [w32_of, w64_of, w8_of]) <;> first | assumption | omega | (split <;> omega) | (refine And.intro ?_ ?_ <;> split <;> omega)) | omega) (by (try dsimp only) <;> first | assumption | omega | ((try simp (disch := omega) only [w32_of, w64_of, w8_of]) <;> first | assumption | omega | (split <;> omega) | (refine And.intro ?_ ?_ <;> split <;> omega)) | omega) (fun x_9 e_x_9 => ?_)
      have b_x_9 : (-1000000000) ≤ x_9 ∧ x_9 ≤ 1000000000 := by rw [e_x_9]; exact iiE_bx (s := 194) hσ (by decide) _
      try simp (disch := omega) only [w32_of, w64_of, w8_of] at e_x_9
      have c8 := w32_rng x_7
      have c9 := w32_rng x_9
      refine wp_if (fun c7 => ?_) (fun c7 => ?_)
      · try simp (disch := omega) only [w32_of, w64_of, w8_of, decide_eq_true_eq, decide_eq_false_iff_not, Bool.not_eq_true] at c7
        refine wp_rdI (by (try dsimp only) <;> first | assumption | omega | ((try simp (disch := omega) only [w32_of, w64_of, w8_of]) <;> first | assumption | omega | (split <;> omega) | (refine And.intro ?_ ?_ <;> split <;> omega)) | omega) (by (try dsimp only) <;> first | assumption | omega | ((try simp (disch := omega) only [w32_of, w64_of, w8_of]) <;> first | assumption | omega | (split <;> omega) | (refine And.intro ?_ ?_ <;> split <;> omega)) | omega) (fun x_12 e_x_12 => ?_)
        have b_x_12 : (-1000000000) ≤ x_12 ∧ x_12 ≤ 1000000000 := by rw [e_x_12]; exact iiE_ay (s := 194) hσ (by decide) _
        try simp (disch := omega) only [w32_of, w64_of, w8_of] at e_x_12
        have c10 : (-1000000000) ≤ σ 50176 i_0 ∧ σ 50176 i_0 ≤ 1000000000 := iiE_ay (s := 194) hσ (by decide) i_0
        refine wp_rdI (by (try dsimp only) <;> first | assumption | omega | ((try simp (disch := omega) only [w32_of, w64_of, w8_of]) <;> first | assumption | omega | (split <;> omega) | (refine And.intro ?_ ?_ <;> split <;> omega)) | omega) (by (try dsimp only) <;> first | assumption | omega | ((try simp (disch := omega) only [w32_of, w64_of, w8_of]) <;> first | assumption | omega | (split <;> omega) | (refine And.intro ?_ ?_ <;> split <;> omega)) | omega) (fun x_14 e_x_14 => ?_)
        have b_x_14 : (-1000000000) ≤ x_14 ∧ x_14 ≤ 1000000000 := by rw [e_x_14]; exact iiE_by (s := 194) hσ (by decide) _
        try simp (disch := omega) only [w32_of, w64_of, w8_of] at e_x_14
        have c11 : (-1000000000) ≤ σ 50688 i_0 ∧ σ 50688 i_0 ≤ 1000000000 := iiE_by (s := 194) hσ (by decide) i_0
        have c13 := w32_rng x_14
        have c14 := w32_rng x_12
        refine wp_if (fun c12 => ?_) (fun c12 => ?_)
        · try simp (disch := omega) only [w32_of, w64_of, w8_of, decide_eq_true_eq, decide_eq_false_iff_not, Bool.not_eq_true] at c12
          exact wp_some trivial
        · try simp (disch := omega) only [w32_of, w64_of, w8_of, decide_eq_true_eq, decide_eq_false_iff_not, Bool.not_eq_true] at c12
          exact wp_some trivial
      · try simp (disch := omega) only [w32_of, w64_of, w8_of, decide_eq_true_eq, decide_eq_false_iff_not, Bool.not_eq_true] at c7
        exact wp_some trivial
  rintro x_20 _ -
  refine wp_bd (P := fun rr_ => (-1000000000 ≤ rr_ ∧ rr_ ≤ 1000000000)) ?_ ?_
  · refine wp_if (fun c15 => ?_) (fun c15 => ?_)
    · try simp (disch := omega) only [w32_of, w64_of, w8_of, decide_eq_true_eq, decide_eq_false_iff_not, Bool.not_eq_true] at c15
      have c16 := w32_rng i_0
      refine wp_rdI (by (try dsimp only) <;> first | assumption | omega | ((try simp (disch := omega) only [w32_of, w64_of, w8_of]) <;> first | assumption | omega | (split <;> omega) | (refine And.intro ?_ ?_ <;> split <;> omega)) | omega) (by (try dsimp only) <;> first | assumption | omega | ((try simp (disch := omega) only [w32_of, w64_of, w8_of]) <;> first | assumption | omega | (split <;> omega) | (refine And.intro ?_ ?_ <;> split <;> omega)) | omega) (fun x_26 e_x_26 => ?_)
      have b_x_26 : (-1000000000) ≤ x_26 ∧ x_26 ≤ 1000000000 := by rw [e_x_26]; exact iiE_bx (s := 194) hσ (by decide) _
      try simp (disch := omega) only [w32_of, w64_of, w8_of] at e_x_26
      have c17 : (-1000000000) ≤ σ 50432 i_0 ∧ σ 50432 i_0 ≤ 1000000000 := iiE_bx (s := 194) hσ (by decide) i_0
      exact wp_some (by (try dsimp only) <;> first | assumption | omega | ((try simp (disch := omega) only [w32_of, w64_of, w8_of]) <;> first | assumption | omega | (split <;> omega) | (refine And.intro ?_ ?_ <;> split <;> omega)) | omega)
    · try simp (disch := omega) only [w32_of, w64_of, w8_of, decide_eq_true_eq, decide_eq_false_iff_not, Bool.not_eq_true] at c15
      have c18 := w32_rng i_0
      refine wp_rdI (by (try dsimp only) <;> first | assumption | omega | ((try simp (disch := omega) only [w32_of, w64_of, w8_of]) <;> first | assumption | omega | (split <;> omega) | (refine And.intro ?_ ?_ <;> split <;> omega)) | omega) (by (try dsimp only) <;> first | assumption | omega | ((try simp (disch := omega) only [w32_of, w64_of, w8_of]) <;> first | assumption | omega | (split <;> omega) | (refine And.intro ?_ ?_ <;> split <;> omega)) | omega) (fun x_29 e_x_29 => ?_)
      have b_x_29 : (-1000000000) ≤ x_29 ∧ x_29 ≤ 1000000000 := by rw [e_x_29]; exact iiE_ax (s := 194) hσ (by decide) _
      try simp (disch := omega) only [w32_of, w64_of, w8_of] at e_x_29
      have c19 : (-1000000000) ≤ σ 49920 i_0 ∧ σ 49920 i_0 ≤ 1000000000 := iiE_ax (s := 194) hσ (by decide) i_0
      exact wp_some (by (try dsimp only) <;> first | assumption | omega | ((try simp (disch := omega) only [w32_of, w64_of, w8_of]) <;> first | assumption | omega | (split <;> omega) | (refine And.intro ?_ ?_ <;> split <;> omega)) | omega)
  rintro x_32 _ g20
  refine wp_bd (P := fun rr_ => (-1000000000 ≤ rr_ ∧ rr_ ≤ 1000000000)) ?_ ?_
  · refine wp_if (fun c21 => ?_) (fun c21 => ?_)
    · try simp (disch := omega) only [w32_of, w64_of, w8_of, decide_eq_true_eq, decide_eq_false_iff_not, Bool.not_eq_true] at c21
      have c22 := w32_rng i_0
      refine wp_rdI (by (try dsimp only) <;> first | assumption | omega | ((try simp (disch := omega) only [w32_of, w64_of, w8_of]) <;> first | assumption | omega | (split <;> omega) | (refine And.intro ?_ ?_ <;> split <;> omega)) | omega) (by (try dsimp only) <;> first | assumption | omega | ((try simp (disch := omega) only [w32_of, w64_of, w8_of]) <;> first | assumption | omega | (split <;> omega) | (refine And.intro ?_ ?_ <;> split <;> omega)) | omega) (fun x_38 e_x_38 => ?_)
      have b_x_38 : (-1000000000) ≤ x_38 ∧ x_38 ≤ 1000000000 := by rw [e_x_38]; exact iiE_by (s := 194) hσ (by decide) _
      try simp (disch := omega) only [w32_of, w64_of, w8_of] at e_x_38
      have c23 : (-1000000000) ≤ σ 50688 i_0 ∧ σ 50688 i_0 ≤ 1000000000 := iiE_by (s := 194) hσ (by decide) i_0
      exact wp_some (by (try dsimp only) <;> first | assumption | omega | ((try simp (disch := omega) only [w32_of, w64_of, w8_of]) <;> first | assumption | omega | (split <;> omega) | (refine And.intro ?_ ?_ <;> split <;> omega)) | omega)
    · try simp (disch := omega) only [w32_of, w64_of, w8_of, decide_eq_true_eq, decide_eq_false_iff_not, Bool.not_eq_true] at c21
      have c24 := w32_rng i_0
      refine wp_rdI (by (try dsimp only) <;> first | assumption | omega | ((try simp (disch := omega) only [w32_of, w64_of, w8_of]) <;> first | assumption | omega | (split <;> omega) | (refine And.intro ?_ ?_ <;> split <;> omega)) | omega) (by (try dsimp only) <;> first | assumption | omega | ((try simp (disch := omega) only [w32_of, w64_of, w8_of]) <;> first | assumption | omega | (split <;> omega) | (refine And.intro ?_ ?_ <;> split <;> omega)) | omega) (fun x_41 e_x_41 => ?_)
      have b_x_41 : (-1000000000) ≤ x_41 ∧ x_41 ≤ 1000000000 := by rw [e_x_41]; exact iiE_ay (s := 194) hσ (by decide) _
      try simp (disch := omega) only [w32_of, w64_of, w8_of] at e_x_41
      have c25 : (-1000000000) ≤ σ 50176 i_0 ∧ σ 50176 i_0 ≤ 1000000000 := iiE_ay (s := 194) hσ (by decide) i_0
      exact wp_some (by (try dsimp only) <;> first | assumption | omega | ((try simp (disch := omega) only [w32_of, w64_of, w8_of]) <;> first | assumption | omega | (split <;> omega) | (refine And.intro ?_ ?_ <;> split <;> omega)) | omega)
  rintro x_44 _ g26
  refine wp_bd (P := fun rr_ => (-1000000000 ≤ rr_ ∧ rr_ ≤ 1000000000)) ?_ ?_
  · refine wp_if (fun c27 => ?_) (fun c27 => ?_)
    · try simp (disch := omega) only [w32_of, w64_of, w8_of, decide_eq_true_eq, decide_eq_false_iff_not, Bool.not_eq_true] at c27
      have c28 := w32_rng i_0
      refine wp_rdI (by (try dsimp only) <;> first | assumption | omega | ((try simp (disch := omega) only [w32_of, w64_of, w8_of]) <;> first | assumption | omega | (split <;> omega) | (refine And.intro ?_ ?_ <;> split <;> omega)) | omega) (by (try dsimp only) <;> first | assumption | omega | ((try simp (disch := omega) only [w32_of, w64_of, w8_of]) <;> first | assumption | omega | (split <;> omega) | (refine And.intro ?_ ?_ <;> split <;> omega)) | omega) (fun x_50 e_x_50 => ?_)
      have b_x_50 : (-1000000000) ≤ x_50 ∧ x_50 ≤ 1000000000 := by rw [e_x_50]; exact iiE_ax (s := 194) hσ (by decide) _
      try simp (disch := omega) only [w32_of, w64_of, w8_of] at e_x_50
      have c29 : (-1000000000) ≤ σ 49920 i_0 ∧ σ 49920 i_0 ≤ 1000000000 := iiE_ax (s := 194) hσ (by decide) i_0
      exact wp_some (by (try dsimp only) <;> first | assumption | omega | ((try simp (disch := omega) only [w32_of, w64_of, w8_of]) <;> first | assumption | omega | (split <;> omega) | (refine And.intro ?_ ?_ <;> split <;> omega)) | omega)
    · try simp (disch := omega) only [w32_of, w64_of, w8_of, decide_eq_true_eq, decide_eq_false_iff_not, Bool.not_eq_true] at c27
      have c30 := w32_rng i_0
      refine wp_rdI (by (try dsimp only) <;> first | assumption | omega | ((try simp (disch := omega) only [w32_of, w64_of, w8_of]) <;> first | assumption | omega | (split <;> omega) | (refine And.intro ?_ ?_ <;> split <;> omega)) | omega) (by (try dsimp only) <;> first | assumption | omega | ((try simp (disch := omega) only [w32_of, w64_of, w8_of]) <;> first | assumption | omega | (split <;> omega) | (refine And.intro ?_ ?_ <;> split <;> omega)) | omega) (fun x_53 e_x_53 => ?_)
      have b_x_53 : (-1000000000) ≤ x_53 ∧ x_53 ≤ 1000000000 := by rw [e_x_53]; exact iiE_bx (s := 194) hσ (by decide) _
      try simp (disch := omega) only [w32_of, w64_of, w8_of] at e_x_53
      have c31 : (-1000000000) ≤ σ 50432 i_0 ∧ σ 50432 i_0 ≤ 1000000000 := iiE_bx (s := 194) hσ (by decide) i_0
      exact wp_some (by (try dsimp only) <;> first | assumption | omega | ((try simp (disch := omega) only [w32_of, w64_of, w8_of]) <;> first | assumption | omega | (split <;> omega) | (refine And.intro ?_ ?_ <;> split <;> omega)) | omega)
  rintro x_56 _ g32
  refine wp_bd (P := fun rr_ => (-1000000000 ≤ rr_ ∧ rr_ ≤ 1000000000)) ?_ ?_
  · refine wp_if (fun c33 => ?_) (fun c33 => ?_)
    · try simp (disch := omega) only [w32_of, w64_of, w8_of, decide_eq_true_eq, decide_eq_false_iff_not, Bool.not_eq_true] at c33
      have c34 := w32_rng i_0
      refine wp_rdI (by (try dsimp only) <;> first | assumption | omega | ((try simp (disch := omega) only [w32_of, w64_of, w8_of]) <;> first | assumption | omega | (split <;> omega) | (refine And.intro ?_ ?_ <;> split <;> omega)) | omega) (by (try dsimp only) <;> first | assumption | omega | ((try simp (disch := omega) only [w32_of, w64_of, w8_of]) <;> first | assumption | omega | (split <;> omega) | (refine And.intro ?_ ?_ <;> split <;> omega)) | omega) (fun x_62 e_x_62 => ?_)
      have b_x_62 : (-1000000000) ≤ x_62 ∧ x_62 ≤ 1000000000 := by rw [e_x_62]; exact iiE_ay (s := 194) hσ (by decide) _
      try simp (disch := omega) only [w32_of, w64_of, w8_of] at e_x_62
      have c35 : (-1000000000) ≤ σ 50176 i_0 ∧ σ 50176 i_0 ≤ 1000000000 := iiE_ay (s := 194) hσ (by decide) i_0
      exact wp_some (by (try dsimp only) <;> first | assumption | omega | ((try simp (disch := omega) only [w32_of, w64_of, w8_of]) <;> first | assumption | omega | (split <;> omega) | (refine And.intro ?_ ?_ <;> split <;> omega)) | omega)
    · try simp (disch := omega) only [w32_of, w64_of, w8_of, decide_eq_true_eq, decide_eq_false_iff_not, Bool.not_eq_true] at c33
      have c36 := w32_rng i_0
      refine wp_rdI (by (try dsimp only) <;> first | assumption | omega | ((try simp (disch := omega) only [w32_of, w64_of, w8_of]) <;> first | assumption | omega | (split <;> omega) | (refine And.intro ?_ ?_ <;> split <;> omega)) | omega) (by (try dsimp only) <;> first | assumption | omega | ((try simp (disch := omega) only [w32_of, w64_of, w8_of]) <;> first | assumption | omega | (split <;> omega) | (refine And.intro ?_ ?_ <;> split <;> omega)) | omega) (fun x_65 e_x_65 => ?_)
      have b_x_65 : (-1000000000) ≤ x_65 ∧ x_65 ≤ 1000000000 := by rw [e_x_65]; exact iiE_by (s := 194) hσ (by decide) _
      try simp (disch := omega) only [w32_of, w64_of, w8_of] at e_x_65
      have c37 : (-1000000000) ≤ σ 50688 i_0 ∧ σ 50688 i_0 ≤ 1000000000 := iiE_by (s := 194) hσ (by decide) i_0
      exact wp_some (by (try dsimp only) <;> first | assumption | omega | ((try simp (disch := omega) only [w32_of, w64_of, w8_of]) <;> first | assumption | omega | (split <;> omega) | (refine And.intro ?_ ?_ <;> split <;> omega)) | omega)
  rintro x_68 _ g38
  have c39 : ((gsz 194 : Nat) : Int) = 2048 := by decide
  refine wp_bd (s_E_lowY (σ := σ) (this_0 := 194) (i_0 := i_0) hσ (by decide) (by (try dsimp only) <;> first | assumption | omega | ((try simp (disch := omega) only [w32_of, w64_of, w8_of]) <;> first | assumption | omega | (split <;> omega) | (refine And.intro ?_ ?_ <;> split <;> omega)) | omega)) ?_
  rintro x_70 - g40
  try simp (disch := omega) only [w32_of, w64_of, w8_of] at g40
  have c41 : ((gsz 194 : Nat) : Int) = 2048 := by decide
  refine wp_bd (s_E_highY (σ := σ) (this_0 := 194) (i_0 := i_0) hσ (by decide) (by (try dsimp only) <;> first | assumption | omega | ((try simp (disch := omega) only [w32_of, w64_of, w8_of]) <;> first | assumption | omega | (split <;> omega) | (refine And.intro ?_ ?_ <;> split <;> omega)) | omega)) ?_
  rintro x_72 - g42
  try simp (disch := omega) only [w32_of, w64_of, w8_of] at g42
  have c43 : ((gsz 194 : Nat) : Int) = 2048 := by decide
  refine wp_bd (s_E_highX (σ := σ) (this_0 := 194) (i_0 := i_0) hσ (by decide) (by (try dsimp only) <;> first | assumption | omega | ((try simp (disch := omega) only [w32_of, w64_of, w8_of]) <;> first | assumption | omega | (split <;> omega) | (refine And.intro ?_ ?_ <;> split <;> omega)) | omega)) ?_
  rintro x_74 - g44
  try simp (disch := omega) only [w32_of, w64_of, w8_of] at g44
  refine wp_bd (s_N_firstHotFrom (σ := σ) (x_0 := x_32) hσ) ?_
  rintro x_76 - g45
  have c46 := ii_kN_hot hσ 0
  try simp (disch := omega) only [w32_of, w64_of, w8_of] at g45
  refine wp_bd (P := fun rr_ => II rr_.2.2.2 ∧ FC [kN_chain] [] σ rr_.2.2.2 ∧ (0 ≤ rr_.1 ∧ rr_.1 ≤ 8192) ∧ (CHs rr_.2.2.2 rr_.1 (σ kN_hot 0))) ?_ ?_
  · refine wp_whl (fun ss_ => II ss_.2.2.2 ∧ FC [kN_chain] [] σ ss_.2.2.2 ∧ (0 ≤ ss_.2.2.1 ∧ ss_.2.2.1 ≤ 8192) ∧ (0 ≤ ss_.1 ∧ ss_.1 ≤ ss_.2.2.1) ∧ (0 ≤ ss_.2.1 ∧ (ss_.2.1 + 1 ≤ ss_.1 ∨ (ss_.1 = 0 ∧ ss_.2.1 = 0))) ∧ (CHs ss_.2.2.2 ss_.1 (σ kN_hot 0))) (fun ss_ => (8193 - ss_.2.2.1).toNat) ⟨hσ, (FC_refl _ _ _), (by (try dsimp only) <;> first | assumption | omega | ((try simp (disch := omega) only [w32_of, w64_of, w8_of]) <;> first | assumption | omega | (split <;> omega) | (refine And.intro ?_ ?_ <;> split <;> omega)) | omega), (by (try dsimp only) <;> first | assumption | omega | ((try simp (disch := omega) only [w32_of, w64_of, w8_of]) <;> first | assumption | omega | (split <;> omega) | (refine And.intro ?_ ?_ <;> split <;> omega)) | omega), (by (try dsimp only) <;> first | assumption | omega | ((try simp (disch := omega) only [w32_of, w64_of, w8_of]) <;> first | assumption | omega | (split <;> omega) | (refine And.intro ?_ ?_ <;> split <;> omega)) | omega), (by (try dsimp only) <;> (first | exact CHs_0 _ _ | assumption))⟩ ?_
    rintro ⟨size_77, column_78, h_79, σ_80⟩ y50
    try dsimp only at y50 ⊢
    obtain ⟨hσ_80, frσ_80, g47, g48, g49, hch⟩ := y50
    have c52 := w32_rng h_79
    have c53 := ii_kN_hot hσ_80 0
    have c54 := FC_at frσ_80 (c := kN_hot) (by first | decide | (rcases hE with rfl | rfl | rfl <;> decide)) 0
    have c55 := w32_rng (σ_80 kN_hot 0)
    refine wp_if (fun c51 => ?_) (fun c51 => ?_)
    · try simp (disch := omega) only [w32_of, w64_of, w8_of, decide_eq_true_eq, decide_eq_false_iff_not, Bool.not_eq_true] at c51
      refine wp_rdI (by (try dsimp only) <;> first | assumption | omega | ((try simp (disch := omega) only [w32_of, w64_of, w8_of]) <;> first | assumption | omega | (split <;> omega) | (refine And.intro ?_ ?_ <;> split <;> omega)) | omega) (by (try dsimp only) <;> first | assumption | omega | ((try simp (disch := omega) only [w32_of, w64_of, w8_of]) <;> first | assumption | omega | (split <;> omega) | (refine And.intro ?_ ?_ <;> split <;> omega)) | omega) (fun x_97 e_x_97 => ?_)
      have b_x_97 : (-1000000000) ≤ x_97 ∧ x_97 ≤ 1000000000 := by rw [e_x_97]; exact ii_kN_hotX hσ_80 _
      rw [FC_at frσ_80 (c := kN_hotX) (by first | decide | (rcases hE with rfl | rfl | rfl <;> decide))] at e_x_97
      try simp (disch := omega) only [w32_of, w64_of, w8_of] at e_x_97
      have c56 := ii_kN_hotX hσ_80 h_79
      have c57 := FC_at frσ_80 (c := kN_hotX) (by first | decide | (rcases hE with rfl | rfl | rfl <;> decide)) h_79
      have c58 := ii_kN_hotX hσ h_79
      have c60 := w32_rng x_97
      have c61 := w32_rng x_74
      refine wp_if (fun c59 => ?_) (fun c59 => ?_)
      · try simp (disch := omega) only [w32_of, w64_of, w8_of, decide_eq_true_eq, decide_eq_false_iff_not, Bool.not_eq_true] at c59
        refine wp_rdI (by (try dsimp only) <;> first | assumption | omega | ((try simp (disch := omega) only [w32_of, w64_of, w8_of]) <;> first | assumption | omega | (split <;> omega) | (refine And.intro ?_ ?_ <;> split <;> omega)) | omega) (by (try dsimp only) <;> first | assumption | omega | ((try simp (disch := omega) only [w32_of, w64_of, w8_of]) <;> first | assumption | omega | (split <;> omega) | (refine And.intro ?_ ?_ <;> split <;> omega)) | omega) (fun x_116 e_x_116 => ?_)
        have b_x_116 : (-1000000000) ≤ x_116 ∧ x_116 ≤ 1000000000 := by rw [e_x_116]; exact ii_kN_hotY hσ_80 _
        rw [FC_at frσ_80 (c := kN_hotY) (by first | decide | (rcases hE with rfl | rfl | rfl <;> decide))] at e_x_116
        try simp (disch := omega) only [w32_of, w64_of, w8_of] at e_x_116
        have c62 := ii_kN_hotY hσ_80 h_79
        have c63 := FC_at frσ_80 (c := kN_hotY) (by first | decide | (rcases hE with rfl | rfl | rfl <;> decide)) h_79
        have c64 := ii_kN_hotY hσ h_79
        have c66 := w32_rng x_116
        have c67 := w32_rng x_70
        refine wp_if (fun c65 => ?_) (fun c65 => ?_)
        · try simp (disch := omega) only [w32_of, w64_of, w8_of, decide_eq_true_eq, decide_eq_false_iff_not, Bool.not_eq_true] at c65
          exact wp_some (x_inl ⟨⟨hσ_80, frσ_80, (by (try dsimp only) <;> first | assumption | omega | ((try simp (disch := omega) only [w32_of, w64_of, w8_of]) <;> first | assumption | omega | (split <;> omega) | (refine And.intro ?_ ?_ <;> split <;> omega)) | omega), (by (try dsimp only) <;> first | assumption | omega | ((try simp (disch := omega) only [w32_of, w64_of, w8_of]) <;> first | assumption | omega | (split <;> omega) | (refine And.intro ?_ ?_ <;> split <;> omega)) | omega), (by (try dsimp only) <;> first | assumption | omega | ((try simp (disch := omega) only [w32_of, w64_of, w8_of]) <;> first | assumption | omega | (split <;> omega) | (refine And.intro ?_ ?_ <;> split <;> omega)) | omega), (by (try dsimp only) <;> (first | exact CHs_0 _ _ | assumption))⟩, (by (try dsimp only) <;> first | assumption | omega | ((try simp (disch := omega) only [w32_of, w64_of, w8_of]) <;> first | assumption | omega | (split <;> omega) | (refine And.intro ?_ ?_ <;> split <;> omega)) | omega)⟩)
        · try simp (disch := omega) only [w32_of, w64_of, w8_of, decide_eq_true_eq, decide_eq_false_iff_not, Bool.not_eq_true] at c65
          refine wp_rdI (by (try dsimp only) <;> first | assumption | omega | ((try simp (disch := omega) only [w32_of, w64_of, w8_of]) <;> first | assumption | omega | (split <;> omega) | (refine And.intro ?_ ?_ <;> split <;> omega)) | omega) (by (try dsimp only) <;> first | assumption | omega | ((try simp (disch := omega) only [w32_of, w64_of, w8_of]) <;> first | assumption | omega | (split <;> omega) | (refine And.intro ?_ ?_ <;> split <;> omega)) | omega) (fun x_120 e_x_120 => ?_)
          have b_x_120 : (-1000000000) ≤ x_120 ∧ x_120 ≤ 1000000000 := by rw [e_x_120]; exact ii_kN_hotY hσ_80 _
          rw [FC_at frσ_80 (c := kN_hotY) (by first | decide | (rcases hE with rfl | rfl | rfl <;> decide))] at e_x_120
          try simp (disch := omega) only [w32_of, w64_of, w8_of] at e_x_120
          have c69 := w32_rng x_72
          have c70 := w32_rng x_120
          refine wp_if (fun c68 => ?_) (fun c68 => ?_)
          · try simp (disch := omega) only [w32_of, w64_of, w8_of, decide_eq_true_eq, decide_eq_false_iff_not, Bool.not_eq_true] at c68
            exact wp_some (x_inl ⟨⟨hσ_80, frσ_80, (by (try dsimp only) <;> first | assumption | omega | ((try simp (disch := omega) only [w32_of, w64_of, w8_of]) <;> first | assumption | omega | (split <;> omega) | (refine And.intro ?_ ?_ <;> split <;> omega)) | omega), (by (try dsimp only) <;> first | assumption | omega | ((try simp (disch := omega) only [w32_of, w64_of, w8_of]) <;> first | assumption | omega | (split <;> omega) | (refine And.intro ?_ ?_ <;> split <;> omega)) | omega), (by (try dsimp only) <;> first | assumption | omega | ((try simp (disch := omega) only [w32_of, w64_of, w8_of]) <;> first | assumption | omega | (split <;> omega) | (refine And.intro ?_ ?_ <;> split <;> omega)) | omega), (by (try dsimp only) <;> (first | exact CHs_0 _ _ | assumption))⟩, (by (try dsimp only) <;> first | assumption | omega | ((try simp (disch := omega) only [w32_of, w64_of, w8_of]) <;> first | assumption | omega | (split <;> omega) | (refine And.intro ?_ ?_ <;> split <;> omega)) | omega)⟩)
          · try simp (disch := omega) only [w32_of, w64_of, w8_of, decide_eq_true_eq, decide_eq_false_iff_not, Bool.not_eq_true] at c68
            refine wp_rdI (by (try dsimp only) <;> first | assumption | omega | ((try simp (disch := omega) only [w32_of, w64_of, w8_of]) <;> first | assumption | omega | (split <;> omega) | (refine And.intro ?_ ?_ <;> split <;> omega)) | omega) (by (try dsimp only) <;> first | assumption | omega | ((try simp (disch := omega) only [w32_of, w64_of, w8_of]) <;> first | assumption | omega | (split <;> omega) | (refine And.intro ?_ ?_ <;> split <;> omega)) | omega) (fun x_124 e_x_124 => ?_)
            have b_x_124 : (-1000000000) ≤ x_124 ∧ x_124 ≤ 1000000000 := by rw [e_x_124]; exact ii_kN_hotX hσ_80 _
            rw [FC_at frσ_80 (c := kN_hotX) (by first | decide | (rcases hE with rfl | rfl | rfl <;> decide))] at e_x_124
            try simp (disch := omega) only [w32_of, w64_of, w8_of] at e_x_124
            refine wp_rdI (by (try dsimp only) <;> first | assumption | omega | ((try simp (disch := omega) only [w32_of, w64_of, w8_of]) <;> first | assumption | omega | (split <;> omega) | (refine And.intro ?_ ?_ <;> split <;> omega)) | omega) (by (try dsimp only) <;> first | assumption | omega | ((try simp (disch := omega) only [w32_of, w64_of, w8_of]) <;> first | assumption | omega | (split <;> omega) | (refine And.intro ?_ ?_ <;> split <;> omega)) | omega) (fun x_126 e_x_126 => ?_)
            have b_x_126 : (-1000000000) ≤ x_126 ∧ x_126 ≤ 1000000000 := by rw [e_x_126]; exact ii_kN_hotY hσ_80 _
            rw [FC_at frσ_80 (c := kN_hotY) (by first | decide | (rcases hE with rfl | rfl | rfl <;> decide))] at e_x_126
            try simp (disch := omega) only [w32_of, w64_of, w8_of] at e_x_126
            have c72 := w32_rng (x_56 - x_32)
            have c73 := w32_rng (x_68 - x_44)
            have c74 := w32_rng x_124
            have c75 := w32_rng x_32
            have c76 := w32_rng x_126
            have c77 := w32_rng x_44
            refine wp_if (fun c71 => ?_) (fun c71 => ?_)
            · try simp (disch := omega) only [w32_of, w64_of, w8_of, decide_eq_true_eq, decide_eq_false_iff_not, Bool.not_eq_true, fN_meetsPixel] at c71
              refine wp_bd (P := fun rr_ => (0 ≤ rr_ ∧ rr_ ≤ size_77)) ?_ ?_
              · have c79 := w32_rng size_77
                refine wp_if (fun c78 => ?_) (fun c78 => ?_)
                · try simp (disch := omega) only [w32_of, w64_of, w8_of, decide_eq_true_eq, decide_eq_false_iff_not, Bool.not_eq_true] at c78
                  have c80 := w32_rng (size_77 - 1)
                  refine wp_rdI (by (try dsimp only) <;> first | assumption | omega | ((try simp (disch := omega) only [w32_of, w64_of, w8_of]) <;> first | assumption | omega | (split <;> omega) | (refine And.intro ?_ ?_ <;> split <;> omega)) | omega) (by (try dsimp only) <;> first | assumption | omega | ((try simp (disch := omega) only [w32_of, w64_of, w8_of]) <;> first | assumption | omega | (split <;> omega) | (refine And.intro ?_ ?_ <;> split <;> omega)) | omega) (fun x_142 e_x_142 => ?_)
                  have b_x_142 : 0 ≤ x_142 ∧ x_142 ≤ 8191 := by rw [e_x_142]; exact ii_kN_chain hσ_80 _
                  try simp (disch := omega) only [w32_of, w64_of, w8_of] at e_x_142
                  have c81 := ii_kN_chain hσ_80 (size_77 - 1)
                  have c82 := w32_rng x_142
                  refine wp_rdI (by (try dsimp only) <;> first | assumption | omega | ((try simp (disch := omega) only [w32_of, w64_of, w8_of]) <;> first | assumption | omega | (split <;> omega) | (refine And.intro ?_ ?_ <;> split <;> omega)) | omega) (by (try dsimp only) <;> first | assumption | omega | ((try simp (disch := omega) only [w32_of, w64_of, w8_of]) <;> first | assumption | omega | (split <;> omega) | (refine And.intro ?_ ?_ <;> split <;> omega)) | omega) (fun x_144 e_x_144 => ?_)
                  have b_x_144 : (-1000000000) ≤ x_144 ∧ x_144 ≤ 1000000000 := by rw [e_x_144]; exact ii_kN_hotX hσ_80 _
                  rw [FC_at frσ_80 (c := kN_hotX) (by first | decide | (rcases hE with rfl | rfl | rfl <;> decide))] at e_x_144
                  try simp (disch := omega) only [w32_of, w64_of, w8_of] at e_x_144
                  have c83 := ii_kN_hotX hσ_80 x_142
                  have c84 := FC_at frσ_80 (c := kN_hotX) (by first | decide | (rcases hE with rfl | rfl | rfl <;> decide)) x_142
                  have c85 := ii_kN_hotX hσ x_142
                  refine wp_rdI (by (try dsimp only) <;> first | assumption | omega | ((try simp (disch := omega) only [w32_of, w64_of, w8_of]) <;> first | assumption | omega | (split <;> omega) | (refine And.intro ?_ ?_ <;> split <;> omega)) | omega) (by (try dsimp only) <;> first | assumption | omega | ((try simp (disch := omega) only [w32_of, w64_of, w8_of]) <;> first | assumption | omega | (split <;> omega) | (refine And.intro ?_ ?_ <;> split <;> omega)) | omega) (fun x_146 e_x_146 => ?_)
                  have b_x_146 : (-1000000000) ≤ x_146 ∧ x_146 ≤ 1000000000 := by rw [e_x_146]; exact ii_kN_hotX hσ_80 _
                  rw [FC_at frσ_80 (c := kN_hotX) (by first | decide | (rcases hE with rfl | rfl | rfl <;> decide))] at e_x_146
                  try simp (disch := omega) only [w32_of, w64_of, w8_of] at e_x_146
                  have c87 := w32_rng x_144
                  have c88 := w32_rng x_146
                  refine wp_if (fun c86 => ?_) (fun c86 => ?_)
                  · try simp (disch := omega) only [w32_of, w64_of, w8_of, decide_eq_true_eq, decide_eq_false_iff_not, Bool.not_eq_true] at c86
                    exact wp_some (by (try dsimp only) <;> first | assumption | omega | ((try simp (disch := omega) only [w32_of, w64_of, w8_of]) <;> first | assumption | omega | (split <;> omega) | (refine And.intro ?_ ?_ <;> split <;> omega)) | omega)
                  · try simp (disch := omega) only [w32_of, w64_of, w8_of, decide_eq_true_eq, decide_eq_false_iff_not, Bool.not_eq_true] at c86
                    exact wp_some (by (try dsimp only) <;> first | assumption | omega | ((try simp (disch := omega) only [w32_of, w64_of, w8_of]) <;> first | assumption | omega | (split <;> omega) | (refine And.intro ?_ ?_ <;> split <;> omega)) | omega)
                · try simp (disch := omega) only [w32_of, w64_of, w8_of, decide_eq_true_eq, decide_eq_false_iff_not, Bool.not_eq_true] at c78
                  exact wp_some (by (try dsimp only) <;> first | assumption | omega | ((try simp (disch := omega) only [w32_of, w64_of, w8_of]) <;> first | assumption | omega | (split <;> omega) | (refine And.intro ?_ ?_ <;> split <;> omega)) | omega)
              rintro x_152 _ g89
              have c90 := w32_rng size_77
              refine wp_waI hσ_80 b_kN_chain (by (try dsimp only) <;> first | assumption | omega | ((try simp (disch := omega) only [w32_of, w64_of, w8_of]) <;> first | assumption | omega | (split <;> omega) | (refine And.intro ?_ ?_ <;> split <;> omega)) | omega) (by (try dsimp only) <;> first | assumption | omega | ((try simp (disch := omega) only [w32_of, w64_of, w8_of]) <;> first | assumption | omega | (split <;> omega) | (refine And.intro ?_ ?_ <;> split <;> omega)) | omega) (by (try dsimp only) <;> first | assumption | omega | ((try simp (disch := omega) only [w32_of, w64_of, w8_of]) <;> first | assumption | omega | (split <;> omega) | (refine And.intro ?_ ?_ <;> split <;> omega)) | omega) (fun σ_153 hσ_153 eσ_153 => ?_)
              try simp (disch := omega) only [w32_of, w64_of, w8_of] at eσ_153
              have flσ_153 := FC_sg eσ_153 (by first | decide | (rcases hE with rfl | rfl | rfl <;> decide))
              have frσ_153 : FC [kN_chain] [] σ σ_153 := FC_tr frσ_80 flσ_153 (by first | decide | (rcases hE with rfl | rfl | rfl <;> decide)) (by first | decide | (rcases hE with rfl | rfl | rfl <;> decide)) (by simp) (by simp)
              have hc1 := CHs_add hch eσ_153 (show 0 ≤ h_79 ∧ h_79 < σ kN_hot 0 by omega)
              refine wp_bd (P := fun rr_ => II rr_ ∧ FC [kN_chain] [] σ rr_ ∧ (CHs rr_ (size_77 + 1) (σ kN_hot 0))) ?_ ?_
              · refine wp_if (fun c91 => ?_) (fun c91 => ?_)
                · try simp (disch := omega) only [w32_of, w64_of, w8_of, decide_eq_true_eq, decide_eq_false_iff_not, Bool.not_eq_true] at c91
                  refine wp_bd (s_N_moveToFront (σ := σ_153) (first_0 := (((size_77 + 1) - 1) - x_152)) (last_0 := ((size_77 + 1) - 1)) hσ_153 (by (try dsimp only) <;> first | assumption | omega | ((try simp (disch := omega) only [w32_of, w64_of, w8_of]) <;> first | assumption | omega | (split <;> omega) | (refine And.intro ?_ ?_ <;> split <;> omega)) | omega)) ?_
                  rintro σ_161 - ⟨hσ_161, flσ_161, hmf⟩
                  have frσ_161 : FC [kN_chain] [] σ σ_161 := FC_tr frσ_153 flσ_161 (by first | decide | (rcases hE with rfl | rfl | rfl <;> decide)) (by first | decide | (rcases hE with rfl | rfl | rfl <;> decide)) (by simp) (by simp)
                  try simp (disch := omega) only [w32_of, w64_of, w8_of] at hmf
                  exact wp_some ⟨hσ_161, frσ_161, (by (try dsimp only) <;> (first | exact hc1 | exact CHs_sb hc1 (by rw [show size_77 + 1 - 1 + 1 = size_77 + 1 by omega] at hmf; exact hmf)))⟩
                · try simp (disch := omega) only [w32_of, w64_of, w8_of, decide_eq_true_eq, decide_eq_false_iff_not, Bool.not_eq_true] at c91
                  exact wp_some ⟨hσ_153, frσ_153, (by (try dsimp only) <;> (first | exact hc1 | exact CHs_sb hc1 (by rw [show size_77 + 1 - 1 + 1 = size_77 + 1 by omega] at hmf; exact hmf)))⟩
              rintro σ_164 _ ⟨hσ_164, frσ_164, g92⟩
              exact wp_some (x_inl ⟨⟨hσ_164, frσ_164, (by (try dsimp only) <;> first | assumption | omega | ((try simp (disch := omega) only [w32_of, w64_of, w8_of]) <;> first | assumption | omega | (split <;> omega) | (refine And.intro ?_ ?_ <;> split <;> omega)) | omega), (by (try dsimp only) <;> first | assumption | omega | ((try simp (disch := omega) only [w32_of, w64_of, w8_of]) <;> first | assumption | omega | (split <;> omega) | (refine And.intro ?_ ?_ <;> split <;> omega)) | omega), (by (try dsimp only) <;> first | assumption | omega | ((try simp (disch := omega) only [w32_of, w64_of, w8_of]) <;> first | assumption | omega | (split <;> omega) | (refine And.intro ?_ ?_ <;> split <;> omega)) | omega), (by (try dsimp only) <;> (first | exact CHs_0 _ _ | assumption))⟩, (by (try dsimp only) <;> first | assumption | omega | ((try simp (disch := omega) only [w32_of, w64_of, w8_of]) <;> first | assumption | omega | (split <;> omega) | (refine And.intro ?_ ?_ <;> split <;> omega)) | omega)⟩)
            · try simp (disch := omega) only [w32_of, w64_of, w8_of, decide_eq_true_eq, decide_eq_false_iff_not, Bool.not_eq_true, fN_meetsPixel] at c71
              exact wp_some (x_inl ⟨⟨hσ_80, frσ_80, (by (try dsimp only) <;> first | assumption | omega | ((try simp (disch := omega) only [w32_of, w64_of, w8_of]) <;> first | assumption | omega | (split <;> omega) | (refine And.intro ?_ ?_ <;> split <;> omega)) | omega), (by (try dsimp only) <;> first | assumption | omega | ((try simp (disch := omega) only [w32_of, w64_of, w8_of]) <;> first | assumption | omega | (split <;> omega) | (refine And.intro ?_ ?_ <;> split <;> omega)) | omega), (by (try dsimp only) <;> first | assumption | omega | ((try simp (disch := omega) only [w32_of, w64_of, w8_of]) <;> first | assumption | omega | (split <;> omega) | (refine And.intro ?_ ?_ <;> split <;> omega)) | omega), (by (try dsimp only) <;> (first | exact CHs_0 _ _ | assumption))⟩, (by (try dsimp only) <;> first | assumption | omega | ((try simp (disch := omega) only [w32_of, w64_of, w8_of]) <;> first | assumption | omega | (split <;> omega) | (refine And.intro ?_ ?_ <;> split <;> omega)) | omega)⟩)
      · try simp (disch := omega) only [w32_of, w64_of, w8_of, decide_eq_true_eq, decide_eq_false_iff_not, Bool.not_eq_true] at c59
        exact wp_some (x_inr ⟨hσ_80, frσ_80, (by (try dsimp only) <;> first | assumption | omega | ((try simp (disch := omega) only [w32_of, w64_of, w8_of]) <;> first | assumption | omega | (split <;> omega) | (refine And.intro ?_ ?_ <;> split <;> omega)) | omega), (by (try dsimp only) <;> (exact hch))⟩)
    · try simp (disch := omega) only [w32_of, w64_of, w8_of, decide_eq_true_eq, decide_eq_false_iff_not, Bool.not_eq_true] at c51
      exact wp_some (x_inr ⟨hσ_80, frσ_80, (by (try dsimp only) <;> first | assumption | omega | ((try simp (disch := omega) only [w32_of, w64_of, w8_of]) <;> first | assumption | omega | (split <;> omega) | (refine And.intro ?_ ?_ <;> split <;> omega)) | omega), (by (try dsimp only) <;> (exact hch))⟩)
  rintro ⟨size_174, column_175, h_176, σ_177⟩ _ y94
  try dsimp only at y94 ⊢
  obtain ⟨hσ_177, frσ_177, g93, hch⟩ := y94
  exact wp_some ⟨hσ_177, frσ_177, (by (try dsimp only) <;> first | assumption | omega | ((try simp (disch := omega) only [w32_of, w64_of, w8_of]) <;> first | assumption | omega | (split <;> omega) | (refine And.intro ?_ ?_ <;> split <;> omega)) | omega), (by (try dsimp only) <;> (exact hch))⟩
theorem s_N_sortHot {σ : SG} (hσ : II σ) (w0 : KYs σ) : wp_ (fN_sortHot σ) (fun zz_ => II zz_.2 ∧ FC [kN_keyCount, kN_keys, kN_hot, kN_hotX, kN_hotY] [] σ zz_.2) := by
  unfold fN_sortHot
  refine wp_bd (v_sortOutKeys (σ := σ) hσ w0) ?_
  rintro ⟨x_3, σ_2⟩ - y1
  try dsimp only at y1 ⊢
  obtain ⟨hσ_2, flσ_2, hks, hkm⟩ := y1
  have frσ_2 : FC [kN_keyCount, kN_keys, kN_hot, kN_hotX, kN_hotY] [] σ σ_2 := FC_le flσ_2 (by first | decide | (rcases hE with rfl | rfl | rfl <;> decide)) (by simp)
  try simp (disch := omega) only [w32_of, w64_of, w8_of] at hks
  have c2 := ii_kN_keyCount hσ_2 0
  try simp (disch := omega) only [w32_of, w64_of, w8_of] at hkm
  refine wp_if (fun c3 => ?_) (fun c3 => ?_)
  · have k4 := hkm c3
    try simp (disch := omega) only [w32_of, w64_of, w8_of] at k4
    try simp (disch := omega) only [w32_of, w64_of, w8_of, decide_eq_true_eq, decide_eq_false_iff_not, Bool.not_eq_true] at c3
    refine wp_wfI hσ_2 b_kN_hot (by (try dsimp only) <;> first | assumption | omega | ((try simp (disch := omega) only [w32_of, w64_of, w8_of]) <;> first | assumption | omega | (split <;> omega) | (refine And.intro ?_ ?_ <;> split <;> omega)) | omega) (fun σ_5 hσ_5 eσ_5 => ?_)
    try simp (disch := omega) only [w32_of, w64_of, w8_of] at eσ_5
    have flσ_5 := FC_sg eσ_5 (by first | decide | (rcases hE with rfl | rfl | rfl <;> decide))
    have frσ_5 : FC [kN_keyCount, kN_keys, kN_hot, kN_hotX, kN_hotY] [] σ σ_5 := FC_tr frσ_2 flσ_5 (by first | decide | (rcases hE with rfl | rfl | rfl <;> decide)) (by first | decide | (rcases hE with rfl | rfl | rfl <;> decide)) (by simp) (by simp)
    refine wp_bd (P := fun rr_ => II rr_.2 ∧ FC [kN_keyCount, kN_keys, kN_hot, kN_hotX, kN_hotY] [] σ rr_.2 ∧ (True)) ?_ ?_
    · have c5 := ii_kN_hot hσ_5 0
      have c6 := sg_val eσ_5
      have c7 := ii_kN_keyCount hσ_5 0
      have c8 := FC_at flσ_5 (c := kN_keyCount) (by first | decide | (rcases hE with rfl | rfl | rfl <;> decide)) 0
      refine wp_whl (fun ss_ => II ss_.2 ∧ FC [kN_keyCount, kN_keys, kN_hot, kN_hotX, kN_hotY] [] σ ss_.2 ∧ (0 ≤ ss_.1 ∧ ss_.1 ≤ 8192) ∧ (ss_.2 kN_hot 0 ≤ ss_.2 kN_keyCount 0) ∧ (KYs ss_.2)) (fun ss_ => (8193 - ss_.1).toNat) ⟨hσ_5, frσ_5, (by (try dsimp only) <;> first | assumption | omega | ((try simp (disch := omega) only [w32_of, w64_of, w8_of]) <;> first | assumption | omega | (split <;> omega) | (refine And.intro ?_ ?_ <;> split <;> omega)) | omega), (by (try dsimp only) <;> first | assumption | omega | ((try simp (disch := omega) only [w32_of, w64_of, w8_of]) <;> first | assumption | omega | (split <;> omega) | (refine And.intro ?_ ?_ <;> split <;> omega)) | omega), (KYs_f flσ_5 (by decide) hks)⟩ ?_
      rintro ⟨i_6, σ_7⟩ y11
      try dsimp only at y11 ⊢
      obtain ⟨hσ_7, frσ_7, g9, g10, gky⟩ := y11
      have c13 := w32_rng i_6
      have c14 := ii_kN_hot hσ_7 0
      have c15 := w32_rng (σ_7 kN_hot 0)
      refine wp_if (fun c12 => ?_) (fun c12 => ?_)
      · try simp (disch := omega) only [w32_of, w64_of, w8_of, decide_eq_true_eq, decide_eq_false_iff_not, Bool.not_eq_true] at c12
        refine wp_rdI (by (try dsimp only) <;> first | assumption | omega | ((try simp (disch := omega) only [w32_of, w64_of, w8_of]) <;> first | assumption | omega | (split <;> omega) | (refine And.intro ?_ ?_ <;> split <;> omega)) | omega) (by (try dsimp only) <;> first | assumption | omega | ((try simp (disch := omega) only [w32_of, w64_of, w8_of]) <;> first | assumption | omega | (split <;> omega) | (refine And.intro ?_ ?_ <;> split <;> omega)) | omega) (fun x_16 e_x_16 => ?_)
        try simp (disch := omega) only [w32_of, w64_of, w8_of] at e_x_16
        have hk6 := okey_b (gky i_6 (by omega) (by omega))
        rw [← e_x_16] at hk6
        refine wp_waI hσ_7 b_kN_hotX (by (try dsimp only) <;> first | assumption | omega | ((try simp (disch := omega) only [w32_of, w64_of, w8_of]) <;> first | assumption | omega | (split <;> omega) | (refine And.intro ?_ ?_ <;> split <;> omega)) | omega) (by (try dsimp only) <;> first | assumption | omega | ((try simp (disch := omega) only [w32_of, w64_of, w8_of]) <;> first | assumption | omega | (split <;> omega) | (refine And.intro ?_ ?_ <;> split <;> omega)) | omega) (by (try dsimp only) <;> first | assumption | omega | ((try simp (disch := omega) only [w32_of, w64_of, w8_of]) <;> first | assumption | omega | (split <;> omega) | (refine And.intro ?_ ?_ <;> split <;> omega)) | omega) (fun σ_18 hσ_18 eσ_18 => ?_)
        try simp (disch := omega) only [w32_of, w64_of, w8_of] at eσ_18
        have flσ_18 := FC_sg eσ_18 (by first | decide | (rcases hE with rfl | rfl | rfl <;> decide))
        have frσ_18 : FC [kN_keyCount, kN_keys, kN_hot, kN_hotX, kN_hotY] [] σ σ_18 := FC_tr frσ_7 flσ_18 (by first | decide | (rcases hE with rfl | rfl | rfl <;> decide)) (by first | decide | (rcases hE with rfl | rfl | rfl <;> decide)) (by simp) (by simp)
        refine wp_rdI (by (try dsimp only) <;> first | assumption | omega | ((try simp (disch := omega) only [w32_of, w64_of, w8_of]) <;> first | assumption | omega | (split <;> omega) | (refine And.intro ?_ ?_ <;> split <;> omega)) | omega) (by (try dsimp only) <;> first | assumption | omega | ((try simp (disch := omega) only [w32_of, w64_of, w8_of]) <;> first | assumption | omega | (split <;> omega) | (refine And.intro ?_ ?_ <;> split <;> omega)) | omega) (fun x_20 e_x_20 => ?_)
        try simp (disch := omega) only [w32_of, w64_of, w8_of] at e_x_20
        have c16 := FC_at flσ_18 (c := kN_keys) (by first | decide | (rcases hE with rfl | rfl | rfl <;> decide)) i_6
        have e20 : x_20 = x_16 := by omega
        rw [← e20] at hk6
        refine wp_waI hσ_18 b_kN_hotY (by (try dsimp only) <;> first | assumption | omega | ((try simp (disch := omega) only [w32_of, w64_of, w8_of]) <;> first | assumption | omega | (split <;> omega) | (refine And.intro ?_ ?_ <;> split <;> omega)) | omega) (by (try dsimp only) <;> first | assumption | omega | ((try simp (disch := omega) only [w32_of, w64_of, w8_of]) <;> first | assumption | omega | (split <;> omega) | (refine And.intro ?_ ?_ <;> split <;> omega)) | omega) (by (try dsimp only) <;> first | assumption | omega | ((try simp (disch := omega) only [w32_of, w64_of, w8_of]) <;> first | assumption | omega | (split <;> omega) | (refine And.intro ?_ ?_ <;> split <;> omega)) | omega) (fun σ_22 hσ_22 eσ_22 => ?_)
        try simp (disch := omega) only [w32_of, w64_of, w8_of] at eσ_22
        have flσ_22 := FC_sg eσ_22 (by first | decide | (rcases hE with rfl | rfl | rfl <;> decide))
        have frσ_22 : FC [kN_keyCount, kN_keys, kN_hot, kN_hotX, kN_hotY] [] σ σ_22 := FC_tr frσ_18 flσ_22 (by first | decide | (rcases hE with rfl | rfl | rfl <;> decide)) (by first | decide | (rcases hE with rfl | rfl | rfl <;> decide)) (by simp) (by simp)
        have c17 := ii_kN_hot hσ_22 0
        have c18 := FC_at flσ_22 (c := kN_hot) (by first | decide | (rcases hE with rfl | rfl | rfl <;> decide)) 0
        have c19 := ii_kN_hot hσ_18 0
        have c20 := FC_at flσ_18 (c := kN_hot) (by first | decide | (rcases hE with rfl | rfl | rfl <;> decide)) 0
        have c21 := ii_kN_keyCount hσ_22 0
        have c22 := FC_at flσ_22 (c := kN_keyCount) (by first | decide | (rcases hE with rfl | rfl | rfl <;> decide)) 0
        have c23 := ii_kN_keyCount hσ_18 0
        have c24 := FC_at flσ_18 (c := kN_keyCount) (by first | decide | (rcases hE with rfl | rfl | rfl <;> decide)) 0
        have c25 := ii_kN_keyCount hσ_7 0
        exact wp_some (x_inl ⟨⟨hσ_22, frσ_22, (by (try dsimp only) <;> first | assumption | omega | ((try simp (disch := omega) only [w32_of, w64_of, w8_of]) <;> first | assumption | omega | (split <;> omega) | (refine And.intro ?_ ?_ <;> split <;> omega)) | omega), (by (try dsimp only) <;> first | assumption | omega | ((try simp (disch := omega) only [w32_of, w64_of, w8_of]) <;> first | assumption | omega | (split <;> omega) | (refine And.intro ?_ ?_ <;> split <;> omega)) | omega), (KYs_f flσ_22 (by decide) (KYs_f flσ_18 (by decide) gky))⟩, (by (try dsimp only) <;> first | assumption | omega | ((try simp (disch := omega) only [w32_of, w64_of, w8_of]) <;> first | assumption | omega | (split <;> omega) | (refine And.intro ?_ ?_ <;> split <;> omega)) | omega)⟩)
      · try simp (disch := omega) only [w32_of, w64_of, w8_of, decide_eq_true_eq, decide_eq_false_iff_not, Bool.not_eq_true] at c12
        exact wp_some (x_inr ⟨hσ_7, frσ_7, (by (try dsimp only) <;> first | assumption | omega | ((try simp (disch := omega) only [w32_of, w64_of, w8_of]) <;> first | assumption | omega | (split <;> omega) | (refine And.intro ?_ ?_ <;> split <;> omega)) | omega)⟩)
    rintro ⟨i_26, σ_27⟩ _ y27
    try dsimp only at y27 ⊢
    obtain ⟨hσ_27, frσ_27, g26⟩ := y27
    exact wp_some ⟨hσ_27, frσ_27⟩
  · try simp (disch := omega) only [w32_of, w64_of, w8_of, decide_eq_true_eq, decide_eq_false_iff_not, Bool.not_eq_true] at c3
    exact wp_some ⟨hσ_2, frσ_2⟩
theorem s_N_leavePieces {σ : SG} {told_0 : Int} (hσ : II σ) (w0 : 0 ≤ told_0 ∧ told_0 ≤ 16384) (w1 : ORp σ told_0 (σ kN_hot 0)) : wp_ (fN_leavePieces σ told_0) (fun zz_ => II zz_ ∧ FC [kN_pieceFrom, kN_pieceMask, kN_pieceTo, kN_pieces] [] σ zz_ ∧ (PFs zz_ (σ kN_hot 0))) := by
  unfold fN_leavePieces
  have c1 := ii_kN_hot hσ 0
  refine wp_wfI hσ b_kN_pieces (by (try dsimp only) <;> first | assumption | omega | ((try simp (disch := omega) only [w32_of, w64_of, w8_of]) <;> first | assumption | omega | (split <;> omega) | (refine And.intro ?_ ?_ <;> split <;> omega)) | omega) (fun σ_1 hσ_1 eσ_1 => ?_)
  try simp (disch := omega) only [w32_of, w64_of, w8_of] at eσ_1
  have flσ_1 := FC_sg eσ_1 (by first | decide | (rcases hE with rfl | rfl | rfl <;> decide))
  have frσ_1 : FC [kN_pieceFrom, kN_pieceMask, kN_pieceTo, kN_pieces] [] σ σ_1 := FC_le flσ_1 (by first | decide | (rcases hE with rfl | rfl | rfl <;> decide)) (by simp)
  refine wp_bd (P := fun rr_ => II rr_.2.2 ∧ FC [kN_pieceFrom, kN_pieceMask, kN_pieceTo, kN_pieces] [] σ rr_.2.2 ∧ (PFs rr_.2.2 (σ kN_hot 0))) ?_ ?_
  · have c2 := ii_kN_pieces hσ_1 0
    have c3 := sg_val eσ_1
    refine wp_whl (fun ss_ => II ss_.2.2 ∧ FC [kN_pieceFrom, kN_pieceMask, kN_pieceTo, kN_pieces] [] σ ss_.2.2 ∧ (0 ≤ ss_.1 ∧ ss_.1 ≤ 3) ∧ (0 ≤ ss_.2.1 ∧ ss_.2.1 ≤ told_0) ∧ (ss_.2.2 kN_pieces 0 ≤ ss_.2.1) ∧ (PFs ss_.2.2 (σ kN_hot 0))) (fun ss_ => (told_0 - ss_.2.1).toNat) ⟨hσ_1, frσ_1, (by (try dsimp only) <;> first | assumption | omega | ((try simp (disch := omega) only [w32_of, w64_of, w8_of]) <;> first | assumption | omega | (split <;> omega) | (refine And.intro ?_ ?_ <;> split <;> omega)) | omega), (by (try dsimp only) <;> first | assumption | omega | ((try simp (disch := omega) only [w32_of, w64_of, w8_of]) <;> first | assumption | omega | (split <;> omega) | (refine And.intro ?_ ?_ <;> split <;> omega)) | omega), (by (try dsimp only) <;> first | assumption | omega | ((try simp (disch := omega) only [w32_of, w64_of, w8_of]) <;> first | assumption | omega | (split <;> omega) | (refine And.intro ?_ ?_ <;> split <;> omega)) | omega), (by (try dsimp only) <;> (first | assumption | exact PFs_0 (sg_val eσ_1)))⟩ ?_
    rintro ⟨mask_2, i_3, σ_4⟩ y7
    try dsimp only at y7 ⊢
    obtain ⟨hσ_4, frσ_4, g4, g5, g6, hpf⟩ := y7
    have c9 := w32_rng i_3
    have c10 := w32_rng told_0
    refine wp_if (fun c8 => ?_) (fun c8 => ?_)
    · try simp (disch := omega) only [w32_of, w64_of, w8_of, decide_eq_true_eq, decide_eq_false_iff_not, Bool.not_eq_true] at c8
      refine wp_rdI (by (try dsimp only) <;> first | assumption | omega | ((try simp (disch := omega) only [w32_of, w64_of, w8_of]) <;> first | assumption | omega | (split <;> omega) | (refine And.intro ?_ ?_ <;> split <;> omega)) | omega) (by (try dsimp only) <;> first | assumption | omega | ((try simp (disch := omega) only [w32_of, w64_of, w8_of]) <;> first | assumption | omega | (split <;> omega) | (refine And.intro ?_ ?_ <;> split <;> omega)) | omega) (fun x_13 e_x_13 => ?_)
      rw [FC_at frσ_4 (c := kN_order) (by first | decide | (rcases hE with rfl | rfl | rfl <;> decide))] at e_x_13
      try simp (disch := omega) only [w32_of, w64_of, w8_of] at e_x_13
      have c11 := FC_at frσ_4 (c := kN_order) (by first | decide | (rcases hE with rfl | rfl | rfl <;> decide)) i_3
      refine wp_rdI (by (try dsimp only) <;> first | assumption | omega | ((try simp (disch := omega) only [w32_of, w64_of, w8_of]) <;> first | assumption | omega | (split <;> omega) | (refine And.intro ?_ ?_ <;> split <;> omega)) | omega) (by (try dsimp only) <;> first | assumption | omega | ((try simp (disch := omega) only [w32_of, w64_of, w8_of]) <;> first | assumption | omega | (split <;> omega) | (refine And.intro ?_ ?_ <;> split <;> omega)) | omega) (fun x_15 e_x_15 => ?_)
      rw [FC_at frσ_4 (c := kN_order) (by first | decide | (rcases hE with rfl | rfl | rfl <;> decide))] at e_x_15
      try simp (disch := omega) only [w32_of, w64_of, w8_of] at e_x_15
      obtain ⟨pa, pb, pm, ha, hb, hm, he⟩ := w1 i_3 (by omega) (by omega)
      have hH := ii_kN_hot hσ 0
      have hpp := piece_p ha hb hm (by omega) (e_x_13.trans he)
      obtain ⟨pp1, pp2, pp3⟩ := hpp
      have ex15 : x_15 = x_13 := by omega
      rw [← ex15] at pp3
      have hix := (ixo_b2 (x := mask_2) (b := q_lan x_15 3) (by omega) (by omega) (by omega) (by omega)).1
      refine wp_bd (P := fun rr_ => True) ?_ ?_
      · have c13 := w32_rng (i_3 + 1)
        refine wp_if (fun c12 => ?_) (fun c12 => ?_)
        · try simp (disch := omega) only [w32_of, w64_of, w8_of, decide_eq_true_eq, decide_eq_false_iff_not, Bool.not_eq_true] at c12
          refine wp_rdI (by (try dsimp only) <;> first | assumption | omega | ((try simp (disch := omega) only [w32_of, w64_of, w8_of]) <;> first | assumption | omega | (split <;> omega) | (refine And.intro ?_ ?_ <;> split <;> omega)) | omega) (by (try dsimp only) <;> first | assumption | omega | ((try simp (disch := omega) only [w32_of, w64_of, w8_of]) <;> first | assumption | omega | (split <;> omega) | (refine And.intro ?_ ?_ <;> split <;> omega)) | omega) (fun x_42 e_x_42 => ?_)
          rw [FC_at frσ_4 (c := kN_order) (by first | decide | (rcases hE with rfl | rfl | rfl <;> decide))] at e_x_42
          try simp (disch := omega) only [w32_of, w64_of, w8_of] at e_x_42
          have c14 := FC_at frσ_4 (c := kN_order) (by first | decide | (rcases hE with rfl | rfl | rfl <;> decide)) (i_3 + 1)
          have c16 := q_lsr_rng x_42 2
          have c17 := w64_rng (q_lsr x_42 2)
          have c18 := q_lsr_rng x_13 2
          have c19 := w64_rng (q_lsr x_13 2)
          refine wp_if (fun c15 => ?_) (fun c15 => ?_)
          · try simp (disch := omega) only [w32_of, w64_of, w8_of, decide_eq_true_eq, decide_eq_false_iff_not, Bool.not_eq_true] at c15
            exact wp_some trivial
          · try simp (disch := omega) only [w32_of, w64_of, w8_of, decide_eq_true_eq, decide_eq_false_iff_not, Bool.not_eq_true] at c15
            exact wp_some trivial
        · try simp (disch := omega) only [w32_of, w64_of, w8_of, decide_eq_true_eq, decide_eq_false_iff_not, Bool.not_eq_true] at c12
          exact wp_some trivial
      rintro b_48 _ -
      refine wp_if (fun c20 => ?_) (fun c20 => ?_)
      · try simp (disch := omega) only [w32_of, w64_of, w8_of, decide_eq_true_eq, decide_eq_false_iff_not, Bool.not_eq_true] at c20
        have c21 := ii_kN_pieces hσ_4 0
        exact wp_some (x_inl ⟨⟨hσ_4, frσ_4, (by (try dsimp only) <;> first | assumption | omega | ((try simp (disch := omega) only [w32_of, w64_of, w8_of]) <;> first | assumption | omega | (split <;> omega) | (refine And.intro ?_ ?_ <;> split <;> omega)) | omega), (by (try dsimp only) <;> first | assumption | omega | ((try simp (disch := omega) only [w32_of, w64_of, w8_of]) <;> first | assumption | omega | (split <;> omega) | (refine And.intro ?_ ?_ <;> split <;> omega)) | omega), (by (try dsimp only) <;> first | assumption | omega | ((try simp (disch := omega) only [w32_of, w64_of, w8_of]) <;> first | assumption | omega | (split <;> omega) | (refine And.intro ?_ ?_ <;> split <;> omega)) | omega), (by (try dsimp only) <;> (first | assumption | exact PFs_0 (sg_val eσ_1)))⟩, (by (try dsimp only) <;> first | assumption | omega | ((try simp (disch := omega) only [w32_of, w64_of, w8_of]) <;> first | assumption | omega | (split <;> omega) | (refine And.intro ?_ ?_ <;> split <;> omega)) | omega)⟩)
      · try simp (disch := omega) only [w32_of, w64_of, w8_of, decide_eq_true_eq, decide_eq_false_iff_not, Bool.not_eq_true] at c20
        refine wp_bd (P := fun rr_ => II rr_ ∧ FC [kN_pieceFrom, kN_pieceMask, kN_pieceTo, kN_pieces] [] σ rr_ ∧ (rr_ kN_pieces 0 ≤ i_3 + 1) ∧ (PFs rr_ (σ kN_hot 0))) ?_ ?_
        · have c23 := q_lan_bd x_15 (m := 3) (by decide) (by decide)
          try simp (disch := omega) only [w32_of, w64_of, w8_of] at c23
          have c24 := q_ixo_rng mask_2 (q_lan x_15 3)
          have c25 := w32_rng (q_ixo mask_2 (q_lan x_15 3))
          refine wp_if (fun c22 => ?_) (fun c22 => ?_)
          · try simp (disch := omega) only [w32_of, w64_of, w8_of, decide_eq_true_eq, decide_eq_false_iff_not, Bool.not_eq_true] at c22
            have c26 := q_lsr_rng x_13 2
            have c27 := q_lsr_rng (q_lsr x_13 2) 13
            have c28 := ii_kN_pieces hσ_4 0
            have c29 := w32_rng (σ_4 kN_pieces 0)
            refine wp_waI hσ_4 b_kN_pieceFrom (by (try dsimp only) <;> first | assumption | omega | ((try simp (disch := omega) only [w32_of, w64_of, w8_of]) <;> first | assumption | omega | (split <;> omega) | (refine And.intro ?_ ?_ <;> split <;> omega)) | omega) (by (try dsimp only) <;> first | assumption | omega | ((try simp (disch := omega) only [w32_of, w64_of, w8_of]) <;> first | assumption | omega | (split <;> omega) | (refine And.intro ?_ ?_ <;> split <;> omega)) | omega) (by (try dsimp only) <;> first | assumption | omega | ((try simp (disch := omega) only [w32_of, w64_of, w8_of]) <;> first | assumption | omega | (split <;> omega) | (refine And.intro ?_ ?_ <;> split <;> omega)) | omega) (fun σ_55 hσ_55 eσ_55 => ?_)
            try simp (disch := omega) only [w32_of, w64_of, w8_of] at eσ_55
            have flσ_55 := FC_sg eσ_55 (by first | decide | (rcases hE with rfl | rfl | rfl <;> decide))
            have frσ_55 : FC [kN_pieceFrom, kN_pieceMask, kN_pieceTo, kN_pieces] [] σ σ_55 := FC_tr frσ_4 flσ_55 (by first | decide | (rcases hE with rfl | rfl | rfl <;> decide)) (by first | decide | (rcases hE with rfl | rfl | rfl <;> decide)) (by simp) (by simp)
            have c30 := q_lan_bd (q_lsr x_13 2) (m := 8191) (by decide) (by decide)
            try simp (disch := omega) only [w32_of, w64_of, w8_of] at c30
            have c31 := ii_kN_pieces hσ_55 0
            have c32 := FC_at flσ_55 (c := kN_pieces) (by first | decide | (rcases hE with rfl | rfl | rfl <;> decide)) 0
            have c33 := w32_rng (σ_55 kN_pieces 0)
            refine wp_waI hσ_55 b_kN_pieceTo (by (try dsimp only) <;> first | assumption | omega | ((try simp (disch := omega) only [w32_of, w64_of, w8_of]) <;> first | assumption | omega | (split <;> omega) | (refine And.intro ?_ ?_ <;> split <;> omega)) | omega) (by (try dsimp only) <;> first | assumption | omega | ((try simp (disch := omega) only [w32_of, w64_of, w8_of]) <;> first | assumption | omega | (split <;> omega) | (refine And.intro ?_ ?_ <;> split <;> omega)) | omega) (by (try dsimp only) <;> first | assumption | omega | ((try simp (disch := omega) only [w32_of, w64_of, w8_of]) <;> first | assumption | omega | (split <;> omega) | (refine And.intro ?_ ?_ <;> split <;> omega)) | omega) (fun σ_57 hσ_57 eσ_57 => ?_)
            try simp (disch := omega) only [w32_of, w64_of, w8_of] at eσ_57
            have flσ_57 := FC_sg eσ_57 (by first | decide | (rcases hE with rfl | rfl | rfl <;> decide))
            have frσ_57 : FC [kN_pieceFrom, kN_pieceMask, kN_pieceTo, kN_pieces] [] σ σ_57 := FC_tr frσ_55 flσ_57 (by first | decide | (rcases hE with rfl | rfl | rfl <;> decide)) (by first | decide | (rcases hE with rfl | rfl | rfl <;> decide)) (by simp) (by simp)
            have c34 := ii_kN_pieces hσ_57 0
            have c35 := FC_at flσ_57 (c := kN_pieces) (by first | decide | (rcases hE with rfl | rfl | rfl <;> decide)) 0
            have c36 := w32_rng (σ_57 kN_pieces 0)
            refine wp_waI hσ_57 b_kN_pieceMask (by (try dsimp only) <;> first | assumption | omega | ((try simp (disch := omega) only [w32_of, w64_of, w8_of]) <;> first | assumption | omega | (split <;> omega) | (refine And.intro ?_ ?_ <;> split <;> omega)) | omega) (by (try dsimp only) <;> first | assumption | omega | ((try simp (disch := omega) only [w32_of, w64_of, w8_of]) <;> first | assumption | omega | (split <;> omega) | (refine And.intro ?_ ?_ <;> split <;> omega)) | omega) (by (try dsimp only) <;> first | assumption | omega | ((try simp (disch := omega) only [w32_of, w64_of, w8_of]) <;> first | assumption | omega | (split <;> omega) | (refine And.intro ?_ ?_ <;> split <;> omega)) | omega) (fun σ_59 hσ_59 eσ_59 => ?_)
            try simp (disch := omega) only [w32_of, w64_of, w8_of] at eσ_59
            have flσ_59 := FC_sg eσ_59 (by first | decide | (rcases hE with rfl | rfl | rfl <;> decide))
            have frσ_59 : FC [kN_pieceFrom, kN_pieceMask, kN_pieceTo, kN_pieces] [] σ σ_59 := FC_tr frσ_57 flσ_59 (by first | decide | (rcases hE with rfl | rfl | rfl <;> decide)) (by first | decide | (rcases hE with rfl | rfl | rfl <;> decide)) (by simp) (by simp)
            have c37 := ii_kN_pieces hσ_59 0
            have c38 := FC_at flσ_59 (c := kN_pieces) (by first | decide | (rcases hE with rfl | rfl | rfl <;> decide)) 0
            refine wp_wfI hσ_59 b_kN_pieces (by (try dsimp only) <;> first | assumption | omega | ((try simp (disch := omega) only [w32_of, w64_of, w8_of]) <;> first | assumption | omega | (split <;> omega) | (refine And.intro ?_ ?_ <;> split <;> omega)) | omega) (fun σ_61 hσ_61 eσ_61 => ?_)
            try simp (disch := omega) only [w32_of, w64_of, w8_of] at eσ_61
            have flσ_61 := FC_sg eσ_61 (by first | decide | (rcases hE with rfl | rfl | rfl <;> decide))
            have frσ_61 : FC [kN_pieceFrom, kN_pieceMask, kN_pieceTo, kN_pieces] [] σ σ_61 := FC_tr frσ_59 flσ_61 (by first | decide | (rcases hE with rfl | rfl | rfl <;> decide)) (by first | decide | (rcases hE with rfl | rfl | rfl <;> decide)) (by simp) (by simp)
            have c39 := ii_kN_pieces hσ_61 0
            have c40 := sg_val eσ_61
            exact wp_some ⟨hσ_61, frσ_61, (by (try dsimp only) <;> first | assumption | omega | ((try simp (disch := omega) only [w32_of, w64_of, w8_of]) <;> first | assumption | omega | (split <;> omega) | (refine And.intro ?_ ?_ <;> split <;> omega)) | omega), (by (try dsimp only) <;> (first | exact hpf | exact (PFs_add hpf eσ_55 eσ_57 eσ_59 eσ_61 ⟨by omega, by omega⟩ ⟨by omega, by omega⟩).1))⟩
          · try simp (disch := omega) only [w32_of, w64_of, w8_of, decide_eq_true_eq, decide_eq_false_iff_not, Bool.not_eq_true] at c22
            have c41 := ii_kN_pieces hσ_4 0
            exact wp_some ⟨hσ_4, frσ_4, (by (try dsimp only) <;> first | assumption | omega | ((try simp (disch := omega) only [w32_of, w64_of, w8_of]) <;> first | assumption | omega | (split <;> omega) | (refine And.intro ?_ ?_ <;> split <;> omega)) | omega), (by (try dsimp only) <;> (first | exact hpf | exact (PFs_add hpf eσ_55 eσ_57 eσ_59 eσ_61 ⟨by omega, by omega⟩ ⟨by omega, by omega⟩).1))⟩
        rintro σ_64 _ ⟨hσ_64, frσ_64, g42, g43⟩
        have c44 := ii_kN_pieces hσ_64 0
        exact wp_some (x_inl ⟨⟨hσ_64, frσ_64, (by (try dsimp only) <;> first | assumption | omega | ((try simp (disch := omega) only [w32_of, w64_of, w8_of]) <;> first | assumption | omega | (split <;> omega) | (refine And.intro ?_ ?_ <;> split <;> omega)) | omega), (by (try dsimp only) <;> first | assumption | omega | ((try simp (disch := omega) only [w32_of, w64_of, w8_of]) <;> first | assumption | omega | (split <;> omega) | (refine And.intro ?_ ?_ <;> split <;> omega)) | omega), (by (try dsimp only) <;> first | assumption | omega | ((try simp (disch := omega) only [w32_of, w64_of, w8_of]) <;> first | assumption | omega | (split <;> omega) | (refine And.intro ?_ ?_ <;> split <;> omega)) | omega), (by (try dsimp only) <;> (first | assumption | exact PFs_0 (sg_val eσ_1)))⟩, (by (try dsimp only) <;> first | assumption | omega | ((try simp (disch := omega) only [w32_of, w64_of, w8_of]) <;> first | assumption | omega | (split <;> omega) | (refine And.intro ?_ ?_ <;> split <;> omega)) | omega)⟩)
    · try simp (disch := omega) only [w32_of, w64_of, w8_of, decide_eq_true_eq, decide_eq_false_iff_not, Bool.not_eq_true] at c8
      exact wp_some (x_inr ⟨hσ_4, frσ_4, (by (try dsimp only) <;> (exact hpf))⟩)
  rintro ⟨mask_73, i_74, σ_75⟩ _ y45
  try dsimp only at y45 ⊢
  obtain ⟨hσ_75, frσ_75, hpf⟩ := y45
  exact wp_some ⟨hσ_75, frσ_75, (by (try dsimp only) <;> (exact hpf))⟩
theorem s_N_layChains {σ : SG} (hσ : II σ) : wp_ (fN_layChains σ) (fun zz_ => II zz_.2 ∧ FC [kN_chain, kN_order, kN_pieceFrom, kN_pieceMask, kN_pieceTo, kN_pieces] [] σ zz_.2 ∧ ((zz_.1 = true) → (PFs zz_.2 (σ kN_hot 0)))) := by
  unfold fN_layChains
  have bz := iiE_size (s := 194) hσ (by decide) 0
  have hH := ii_kN_hot hσ 0
  refine wp_bx (P := fun rr_ => II rr_.2.2.2 ∧ FC [kN_chain, kN_order, kN_pieceFrom, kN_pieceMask, kN_pieceTo, kN_pieces] [] σ rr_.2.2.2 ∧ (0 ≤ rr_.2.1 ∧ rr_.2.1 ≤ 16384) ∧ (ORp rr_.2.2.2 rr_.2.1 (σ kN_hot 0))) ?_ ?_
  · have c1 := ii_kN_lengthless hσ 0
    have c2 := ii_kN_hot hσ 0
    refine wp_whl (fun ss_ => II ss_.2.2.2 ∧ FC [kN_chain, kN_order, kN_pieceFrom, kN_pieceMask, kN_pieceTo, kN_pieces] [] σ ss_.2.2.2 ∧ (0 ≤ ss_.2.2.1 ∧ ss_.2.2.1 ≤ 2048) ∧ (0 ≤ ss_.2.1 ∧ ss_.2.1 ≤ ss_.1 ∧ ss_.1 ≤ 16384) ∧ (ORp ss_.2.2.2 ss_.2.1 (σ kN_hot 0))) (fun ss_ => (2049 - ss_.2.2.1).toNat) ⟨hσ, (FC_refl _ _ _), (by (try dsimp only) <;> first | assumption | omega | ((try simp (disch := omega) only [w32_of, w64_of, w8_of]) <;> first | assumption | omega | (split <;> omega) | (refine And.intro ?_ ?_ <;> split <;> omega)) | omega), (by (try dsimp only) <;> first | assumption | omega | ((try simp (disch := omega) only [w32_of, w64_of, w8_of]) <;> first | assumption | omega | (split <;> omega) | (refine And.intro ?_ ?_ <;> split <;> omega)) | omega), (by (try dsimp only) <;> (first | exact ORp_0 _ _ | assumption))⟩ ?_
    rintro ⟨places_1, told_2, i_3, σ_4⟩ y5
    try dsimp only at y5 ⊢
    obtain ⟨hσ_4, frσ_4, g3, g4, hor⟩ := y5
    have c7 := w32_rng i_3
    have c8 := iiE_size (s := 194) hσ_4 (by decide) 0
    have c9 := FC_at frσ_4 (c := (kE_size 194)) (by first | decide | (rcases hE with rfl | rfl | rfl <;> decide)) 0
    have c10 := iiE_size (s := 194) hσ (by decide) 0
    have c11 := w32_rng (σ_4 (kE_size 194) 0)
    refine wp_if (fun c6 => ?_) (fun c6 => ?_)
    · try simp (disch := omega) only [w32_of, w64_of, w8_of, decide_eq_true_eq, decide_eq_false_iff_not, Bool.not_eq_true] at c6
      refine wp_bd (s_N_layChain (σ := σ_4) (i_0 := i_3) hσ_4 (by (try dsimp only) <;> first | assumption | omega | ((try simp (disch := omega) only [w32_of, w64_of, w8_of]) <;> first | assumption | omega | (split <;> omega) | (refine And.intro ?_ ?_ <;> split <;> omega)) | omega)) ?_
      rintro ⟨x_15, σ_14⟩ - y12
      try dsimp only at y12 ⊢
      obtain ⟨hσ_14, flσ_14, hlc, hch⟩ := y12
      have frσ_14 : FC [kN_chain, kN_order, kN_pieceFrom, kN_pieceMask, kN_pieceTo, kN_pieces] [] σ σ_14 := FC_tr frσ_4 flσ_14 (by first | decide | (rcases hE with rfl | rfl | rfl <;> decide)) (by first | decide | (rcases hE with rfl | rfl | rfl <;> decide)) (by simp) (by simp)
      try simp (disch := omega) only [w32_of, w64_of, w8_of] at hlc
      have c13 := ii_kN_hot hσ_4 0
      have c14 := FC_at frσ_4 (c := kN_hot) (by first | decide | (rcases hE with rfl | rfl | rfl <;> decide)) 0
      try simp (disch := omega) only [w32_of, w64_of, w8_of] at hch
      have c16 := w32_rng (places_1 + x_15)
      refine wp_if (fun c15 => ?_) (fun c15 => ?_)
      · try simp (disch := omega) only [w32_of, w64_of, w8_of, decide_eq_true_eq, decide_eq_false_iff_not, Bool.not_eq_true] at c15
        exact wp_some (x_inr (x_inr ⟨hσ_14, frσ_14, (fun q => (by cases q))⟩))
      · try simp (disch := omega) only [w32_of, w64_of, w8_of, decide_eq_true_eq, decide_eq_false_iff_not, Bool.not_eq_true] at c15
        refine wp_bd (P := fun rr_ => II rr_.2.2 ∧ FC [kN_chain, kN_order, kN_pieceFrom, kN_pieceMask, kN_pieceTo, kN_pieces] [] σ rr_.2.2 ∧ (0 ≤ rr_.1 ∧ rr_.1 ≤ told_2 + x_15) ∧ (ORp rr_.2.2 rr_.1 (σ kN_hot 0))) ?_ ?_
        · refine wp_whl (fun ss_ => II ss_.2.2 ∧ FC [kN_chain, kN_order, kN_pieceFrom, kN_pieceMask, kN_pieceTo, kN_pieces] [] σ ss_.2.2 ∧ (0 ≤ ss_.2.1 ∧ (ss_.2.1 = 0 ∨ ss_.2.1 + 1 ≤ x_15)) ∧ (ss_.1 = told_2 + ss_.2.1) ∧ (CHs ss_.2.2 x_15 (σ kN_hot 0)) ∧ (ORp ss_.2.2 ss_.1 (σ kN_hot 0))) (fun ss_ => (8200 - ss_.2.1).toNat) ⟨hσ_14, frσ_14, (by (try dsimp only) <;> first | assumption | omega | ((try simp (disch := omega) only [w32_of, w64_of, w8_of]) <;> first | assumption | omega | (split <;> omega) | (refine And.intro ?_ ?_ <;> split <;> omega)) | omega), (by (try dsimp only) <;> first | assumption | omega | ((try simp (disch := omega) only [w32_of, w64_of, w8_of]) <;> first | assumption | omega | (split <;> omega) | (refine And.intro ?_ ?_ <;> split <;> omega)) | omega), (by (try dsimp only) <;> (first | (rw [show σ_4 kN_hot 0 = σ kN_hot 0 from FC_at frσ_4 (c := kN_hot) (by decide) 0] at hch; exact hch) | exact hch | exact CHs_f flσ_38 (by decide) hc19)), (by (try dsimp only) <;> (first | exact ORp_f flσ_14 (by decide) hor | exact ORp_add ho19 eσ_38 (by omega) (by omega) (by omega) (by omega)))⟩ ?_
          rintro ⟨told_17, k_18, σ_19⟩ y19
          try dsimp only at y19 ⊢
          obtain ⟨hσ_19, frσ_19, g17, g18, hc19, ho19⟩ := y19
          have c21 := w32_rng (k_18 + 1)
          have c22 := w32_rng x_15
          refine wp_if (fun c20 => ?_) (fun c20 => ?_)
          · try simp (disch := omega) only [w32_of, w64_of, w8_of, decide_eq_true_eq, decide_eq_false_iff_not, Bool.not_eq_true] at c20
            have c23 := w32_rng k_18
            refine wp_rdI (by (try dsimp only) <;> first | assumption | omega | ((try simp (disch := omega) only [w32_of, w64_of, w8_of]) <;> first | assumption | omega | (split <;> omega) | (refine And.intro ?_ ?_ <;> split <;> omega)) | omega) (by (try dsimp only) <;> first | assumption | omega | ((try simp (disch := omega) only [w32_of, w64_of, w8_of]) <;> first | assumption | omega | (split <;> omega) | (refine And.intro ?_ ?_ <;> split <;> omega)) | omega) (fun x_28 e_x_28 => ?_)
            have b_x_28 : 0 ≤ x_28 ∧ x_28 ≤ 8191 := by rw [e_x_28]; exact ii_kN_chain hσ_19 _
            try simp (disch := omega) only [w32_of, w64_of, w8_of] at e_x_28
            have c24 := ii_kN_chain hσ_19 k_18
            refine wp_rdI (by (try dsimp only) <;> first | assumption | omega | ((try simp (disch := omega) only [w32_of, w64_of, w8_of]) <;> first | assumption | omega | (split <;> omega) | (refine And.intro ?_ ?_ <;> split <;> omega)) | omega) (by (try dsimp only) <;> first | assumption | omega | ((try simp (disch := omega) only [w32_of, w64_of, w8_of]) <;> first | assumption | omega | (split <;> omega) | (refine And.intro ?_ ?_ <;> split <;> omega)) | omega) (fun x_30 e_x_30 => ?_)
            have b_x_30 : 0 ≤ x_30 ∧ x_30 ≤ 8191 := by rw [e_x_30]; exact ii_kN_chain hσ_19 _
            try simp (disch := omega) only [w32_of, w64_of, w8_of] at e_x_30
            have c25 := ii_kN_chain hσ_19 (k_18 + 1)
            refine wp_rdI (by (try dsimp only) <;> first | assumption | omega | ((try simp (disch := omega) only [w32_of, w64_of, w8_of]) <;> first | assumption | omega | (split <;> omega) | (refine And.intro ?_ ?_ <;> split <;> omega)) | omega) (by (try dsimp only) <;> first | assumption | omega | ((try simp (disch := omega) only [w32_of, w64_of, w8_of]) <;> first | assumption | omega | (split <;> omega) | (refine And.intro ?_ ?_ <;> split <;> omega)) | omega) (fun x_32 e_x_32 => ?_)
            have b_x_32 : 0 ≤ x_32 ∧ x_32 ≤ 8191 := by rw [e_x_32]; exact ii_kN_chain hσ_19 _
            try simp (disch := omega) only [w32_of, w64_of, w8_of] at e_x_32
            refine wp_rdI (by (try dsimp only) <;> first | assumption | omega | ((try simp (disch := omega) only [w32_of, w64_of, w8_of]) <;> first | assumption | omega | (split <;> omega) | (refine And.intro ?_ ?_ <;> split <;> omega)) | omega) (by (try dsimp only) <;> first | assumption | omega | ((try simp (disch := omega) only [w32_of, w64_of, w8_of]) <;> first | assumption | omega | (split <;> omega) | (refine And.intro ?_ ?_ <;> split <;> omega)) | omega) (fun x_34 e_x_34 => ?_)
            have b_x_34 : 0 ≤ x_34 ∧ x_34 ≤ 8191 := by rw [e_x_34]; exact ii_kN_chain hσ_19 _
            try simp (disch := omega) only [w32_of, w64_of, w8_of] at e_x_34
            refine wp_rdI (by (try dsimp only) <;> first | assumption | omega | ((try simp (disch := omega) only [w32_of, w64_of, w8_of]) <;> first | assumption | omega | (split <;> omega) | (refine And.intro ?_ ?_ <;> split <;> omega)) | omega) (by (try dsimp only) <;> first | assumption | omega | ((try simp (disch := omega) only [w32_of, w64_of, w8_of]) <;> first | assumption | omega | (split <;> omega) | (refine And.intro ?_ ?_ <;> split <;> omega)) | omega) (fun x_36 e_x_36 => ?_)
            have b_x_36 : 0 ≤ x_36 ∧ x_36 ≤ 3 := by rw [e_x_36]; exact iiE_mark194 hσ_19 _
            rw [FC_at frσ_19 (c := 50944) (by first | decide | (rcases hE with rfl | rfl | rfl <;> decide))] at e_x_36
            try simp (disch := omega) only [w32_of, w64_of, w8_of] at e_x_36
            have c26 : 0 ≤ σ_19 50944 i_3 ∧ σ_19 50944 i_3 ≤ 3 := iiE_mark194 hσ_19 i_3
            have c27 := FC_at frσ_19 (c := 50944) (by first | decide | (rcases hE with rfl | rfl | rfl <;> decide)) i_3
            have c28 : 0 ≤ σ 50944 i_3 ∧ σ 50944 i_3 ≤ 3 := iiE_mark194 hσ i_3
            have k1 := hc19 k_18 (by omega) (by omega)
            have k2 := hc19 (k_18 + 1) (by omega) (by omega)
            rw [← e_x_28] at k1
            rw [← e_x_30] at k2
            have k3 : x_32 = x_28 := by omega
            have k4 : x_34 = x_30 := by omega
            have hmk : 0 ≤ x_36 ∧ x_36 ≤ 3 := by rw [e_x_36]; exact iiE_mark194 hσ _
            have mn1 := q_mni_bd x_28 x_30
            have mx1 := q_mxi_bd x_32 x_34
            rw [w32_of (x := x_28) (by omega) (by omega), w32_of (x := x_30) (by omega) (by omega)] at mn1
            rw [w32_of (x := x_32) (by omega) (by omega), w32_of (x := x_34) (by omega) (by omega)] at mx1
            have c29 := q_mni_bd x_28 x_30
            try simp (disch := omega) only [w32_of, w64_of, w8_of] at c29
            have c30 := w32_rng (q_mni x_28 x_30)
            have c32 := q_mxi_bd x_32 x_34
            try simp (disch := omega) only [w32_of, w64_of, w8_of] at c32
            have c33 := w32_rng (q_mxi x_32 x_34)
            have c36 := w32_rng x_36
            have c38 := w32_rng told_17
            refine wp_waN hσ_19 b_kN_order (by (try dsimp only) <;> first | assumption | omega | ((try simp (disch := omega) only [w32_of, w64_of, w8_of]) <;> first | assumption | omega | (split <;> omega) | (refine And.intro ?_ ?_ <;> split <;> omega)) | omega) (by (try dsimp only) <;> first | assumption | omega | ((try simp (disch := omega) only [w32_of, w64_of, w8_of]) <;> first | assumption | omega | (split <;> omega) | (refine And.intro ?_ ?_ <;> split <;> omega)) | omega) (fun σ_38 hσ_38 eσ_38 => ?_)
            try simp (disch := omega) only [w32_of, w64_of, w8_of] at eσ_38
            have flσ_38 := FC_sg eσ_38 (by first | decide | (rcases hE with rfl | rfl | rfl <;> decide))
            have frσ_38 : FC [kN_chain, kN_order, kN_pieceFrom, kN_pieceMask, kN_pieceTo, kN_pieces] [] σ σ_38 := FC_tr frσ_19 flσ_38 (by first | decide | (rcases hE with rfl | rfl | rfl <;> decide)) (by first | decide | (rcases hE with rfl | rfl | rfl <;> decide)) (by simp) (by simp)
            exact wp_some (x_inl ⟨⟨hσ_38, frσ_38, (by (try dsimp only) <;> first | assumption | omega | ((try simp (disch := omega) only [w32_of, w64_of, w8_of]) <;> first | assumption | omega | (split <;> omega) | (refine And.intro ?_ ?_ <;> split <;> omega)) | omega), (by (try dsimp only) <;> first | assumption | omega | ((try simp (disch := omega) only [w32_of, w64_of, w8_of]) <;> first | assumption | omega | (split <;> omega) | (refine And.intro ?_ ?_ <;> split <;> omega)) | omega), (by (try dsimp only) <;> (first | (rw [show σ_4 kN_hot 0 = σ kN_hot 0 from FC_at frσ_4 (c := kN_hot) (by decide) 0] at hch; exact hch) | exact hch | exact CHs_f flσ_38 (by decide) hc19)), (by (try dsimp only) <;> (first | exact ORp_f flσ_14 (by decide) hor | exact ORp_add ho19 eσ_38 (by omega) (by omega) (by omega) (by omega)))⟩, (by (try dsimp only) <;> first | assumption | omega | ((try simp (disch := omega) only [w32_of, w64_of, w8_of]) <;> first | assumption | omega | (split <;> omega) | (refine And.intro ?_ ?_ <;> split <;> omega)) | omega)⟩)
          · try simp (disch := omega) only [w32_of, w64_of, w8_of, decide_eq_true_eq, decide_eq_false_iff_not, Bool.not_eq_true] at c20
            exact wp_some (x_inr ⟨hσ_19, frσ_19, (by (try dsimp only) <;> first | assumption | omega | ((try simp (disch := omega) only [w32_of, w64_of, w8_of]) <;> first | assumption | omega | (split <;> omega) | (refine And.intro ?_ ?_ <;> split <;> omega)) | omega), (by (try dsimp only) <;> (exact ho19))⟩)
        rintro ⟨told_42, k_43, σ_44⟩ _ y41
        try dsimp only at y41 ⊢
        obtain ⟨hσ_44, frσ_44, g39, g40⟩ := y41
        exact wp_some (x_inl ⟨⟨hσ_44, frσ_44, (by (try dsimp only) <;> first | assumption | omega | ((try simp (disch := omega) only [w32_of, w64_of, w8_of]) <;> first | assumption | omega | (split <;> omega) | (refine And.intro ?_ ?_ <;> split <;> omega)) | omega), (by (try dsimp only) <;> first | assumption | omega | ((try simp (disch := omega) only [w32_of, w64_of, w8_of]) <;> first | assumption | omega | (split <;> omega) | (refine And.intro ?_ ?_ <;> split <;> omega)) | omega), (by (try dsimp only) <;> (first | exact ORp_0 _ _ | assumption))⟩, (by (try dsimp only) <;> first | assumption | omega | ((try simp (disch := omega) only [w32_of, w64_of, w8_of]) <;> first | assumption | omega | (split <;> omega) | (refine And.intro ?_ ?_ <;> split <;> omega)) | omega)⟩)
    · try simp (disch := omega) only [w32_of, w64_of, w8_of, decide_eq_true_eq, decide_eq_false_iff_not, Bool.not_eq_true] at c6
      exact wp_some (x_inr (x_inl ⟨hσ_4, frσ_4, (by (try dsimp only) <;> first | assumption | omega | ((try simp (disch := omega) only [w32_of, w64_of, w8_of]) <;> first | assumption | omega | (split <;> omega) | (refine And.intro ?_ ?_ <;> split <;> omega)) | omega), (by (try dsimp only) <;> (exact hor))⟩))
  rintro ⟨places_48, told_49, i_50, σ_51⟩ y43
  try dsimp only at y43 ⊢
  obtain ⟨hσ_51, frσ_51, g42, hor⟩ := y43
  refine wp_bd (v_sortRow (σ := σ_51) (row_0 := 201) (row_n := 16384) (size_0 := told_49) hσ_51 (by decide) (by decide) (by (try dsimp only) <;> first | assumption | omega | ((try simp (disch := omega) only [w32_of, w64_of, w8_of]) <;> first | assumption | omega | (split <;> omega) | (refine And.intro ?_ ?_ <;> split <;> omega)) | omega)) ?_
  rintro σ_53 - ⟨hσ_53, flσ_53, hsb⟩
  have frσ_53 : FC [kN_chain, kN_order, kN_pieceFrom, kN_pieceMask, kN_pieceTo, kN_pieces] [] σ σ_53 := FC_tr frσ_51 flσ_53 (by first | decide | (rcases hE with rfl | rfl | rfl <;> decide)) (by first | decide | (rcases hE with rfl | rfl | rfl <;> decide)) (by simp) (by simp)
  try simp (disch := omega) only [w32_of, w64_of, w8_of] at hsb
  have c44 := ii_kN_hot hσ_53 0
  have c45 := FC_at flσ_53 (c := kN_hot) (by first | decide | (rcases hE with rfl | rfl | rfl <;> decide)) 0
  have c46 := ii_kN_hot hσ_51 0
  have c47 := FC_at frσ_51 (c := kN_hot) (by first | decide | (rcases hE with rfl | rfl | rfl <;> decide)) 0
  have c48 := ii_kN_hot hσ 0
  refine wp_bd (s_N_leavePieces (σ := σ_53) (told_0 := told_49) hσ_53 (by (try dsimp only) <;> first | assumption | omega | ((try simp (disch := omega) only [w32_of, w64_of, w8_of]) <;> first | assumption | omega | (split <;> omega) | (refine And.intro ?_ ?_ <;> split <;> omega)) | omega) (by rw [show σ_53 kN_hot 0 = σ kN_hot 0 from FC_at frσ_53 (c := kN_hot) (by decide) 0]; exact ORp_sb hor hsb)) ?_
  rintro σ_55 - ⟨hσ_55, flσ_55, hpf⟩
  have frσ_55 : FC [kN_chain, kN_order, kN_pieceFrom, kN_pieceMask, kN_pieceTo, kN_pieces] [] σ σ_55 := FC_tr frσ_53 flσ_55 (by first | decide | (rcases hE with rfl | rfl | rfl <;> decide)) (by first | decide | (rcases hE with rfl | rfl | rfl <;> decide)) (by simp) (by simp)
  try simp (disch := omega) only [w32_of, w64_of, w8_of] at hpf
  exact wp_some ⟨hσ_55, frσ_55, (by (try dsimp only) <;> (first | (intro q9; exact absurd q9 (by decide)) | (intro _; rw [show σ_53 kN_hot 0 = σ kN_hot 0 from FC_at frσ_53 (c := kN_hot) (by decide) 0] at hpf; exact hpf)))⟩
theorem s_N_snap {σ : SG} {one_0 : Nat} {two_0 : Nat} (hσ : II σ) (hs_one_0 : isS one_0) (hs_two_0 : isS two_0) (w0 : SHa σ one_0) (w1 : SHa σ two_0) (w2 : SNs σ one_0) (w3 : SNs σ two_0) : wp_ (fN_snap σ one_0 two_0) (fun zz_ => II zz_.2 ∧ FC [49920, 50176, 50432, 50688, 50944, (kE_size 194), (kE_placeX 194), (kE_placeY 194), kN_chain, kN_hot, kN_hotX, kN_hotY, kN_keyCount, kN_keys, kN_lengthless, kN_order, kN_pieceFrom, kN_pieceMask, kN_pieceTo, kN_pieces] [] σ zz_.2 ∧ ((zz_.1 = true) → (PFs zz_.2 (zz_.2 kN_hot 0)))) := by
  unfold fN_snap
  refine wp_wfI hσ (bE_size (s := 194) (by decide)) (by (try dsimp only) <;> first | assumption | omega | ((try simp (disch := omega) only [w32_of, w64_of, w8_of]) <;> first | assumption | omega | (split <;> omega) | (refine And.intro ?_ ?_ <;> split <;> omega)) | omega) (fun σ_1 hσ_1 eσ_1 => ?_)
  try simp (disch := omega) only [w32_of, w64_of, w8_of] at eσ_1
  have flσ_1 := FC_sg eσ_1 (by first | decide | (rcases hE with rfl | rfl | rfl <;> decide))
  have frσ_1 : FC [49920, 50176, 50432, 50688, 50944, (kE_size 194), (kE_placeX 194), (kE_placeY 194), kN_chain, kN_hot, kN_hotX, kN_hotY, kN_keyCount, kN_keys, kN_lengthless, kN_order, kN_pieceFrom, kN_pieceMask, kN_pieceTo, kN_pieces] [] σ σ_1 := FC_le flσ_1 (by first | decide | (rcases hE with rfl | rfl | rfl <;> decide)) (by simp)
  refine wp_wfI hσ_1 b_kN_lengthless (by (try dsimp only) <;> first | assumption | omega | ((try simp (disch := omega) only [w32_of, w64_of, w8_of]) <;> first | assumption | omega | (split <;> omega) | (refine And.intro ?_ ?_ <;> split <;> omega)) | omega) (fun σ_2 hσ_2 eσ_2 => ?_)
  try simp (disch := omega) only [w32_of, w64_of, w8_of] at eσ_2
  have flσ_2 := FC_sg eσ_2 (by first | decide | (rcases hE with rfl | rfl | rfl <;> decide))
  have frσ_2 : FC [49920, 50176, 50432, 50688, 50944, (kE_size 194), (kE_placeX 194), (kE_placeY 194), kN_chain, kN_hot, kN_hotX, kN_hotY, kN_keyCount, kN_keys, kN_lengthless, kN_order, kN_pieceFrom, kN_pieceMask, kN_pieceTo, kN_pieces] [] σ σ_2 := FC_tr frσ_1 flσ_2 (by first | decide | (rcases hE with rfl | rfl | rfl <;> decide)) (by first | decide | (rcases hE with rfl | rfl | rfl <;> decide)) (by simp) (by simp)
  refine wp_wfI hσ_2 b_kN_keyCount (by (try dsimp only) <;> first | assumption | omega | ((try simp (disch := omega) only [w32_of, w64_of, w8_of]) <;> first | assumption | omega | (split <;> omega) | (refine And.intro ?_ ?_ <;> split <;> omega)) | omega) (fun σ_3 hσ_3 eσ_3 => ?_)
  try simp (disch := omega) only [w32_of, w64_of, w8_of] at eσ_3
  have flσ_3 := FC_sg eσ_3 (by first | decide | (rcases hE with rfl | rfl | rfl <;> decide))
  have frσ_3 : FC [49920, 50176, 50432, 50688, 50944, (kE_size 194), (kE_placeX 194), (kE_placeY 194), kN_chain, kN_hot, kN_hotX, kN_hotY, kN_keyCount, kN_keys, kN_lengthless, kN_order, kN_pieceFrom, kN_pieceMask, kN_pieceTo, kN_pieces] [] σ σ_3 := FC_tr frσ_2 flσ_3 (by first | decide | (rcases hE with rfl | rfl | rfl <;> decide)) (by first | decide | (rcases hE with rfl | rfl | rfl <;> decide)) (by simp) (by simp)
  have hk3 : KYs σ_3 := fun i a b => by rw [sg_val eσ_3] at b; omega
  have hs3 : SNc σ_3 := fun i a b => by rw [show σ_3 (kE_size 194) 0 = 0 by rw [eσ_3, sg_nc (by decide), eσ_2, sg_nc (by decide), eσ_1, sg_at]] at b; omega
  refine wp_bd (P := fun rr_ => II rr_.2 ∧ FC [49920, 50176, 50432, 50688, 50944, (kE_size 194), (kE_placeX 194), (kE_placeY 194), kN_chain, kN_hot, kN_hotX, kN_hotY, kN_keyCount, kN_keys, kN_lengthless, kN_order, kN_pieceFrom, kN_pieceMask, kN_pieceTo, kN_pieces] [] σ rr_.2 ∧ ((rr_.1 = true) → (PFs rr_.2 (rr_.2 kN_hot 0)))) ?_ ?_
  · refine wp_bd (s_N_collect (σ := σ_3) (shape_0 := one_0) (mask_0 := 1) hσ_3 (by first | assumption | decide | omega) (SHa_f flσ_3 (by first | assumption | decide | omega) (NS_0 _) (SHa_f flσ_2 (by first | assumption | decide | omega) (NS_0 _) (SHa_f flσ_1 (by first | assumption | decide | omega) (NS_0 _) w0))) (SNs_f flσ_3 (by first | assumption | decide | omega) (NS_0 _) (SNs_f flσ_2 (by first | assumption | decide | omega) (NS_0 _) (SNs_f flσ_1 (by first | assumption | decide | omega) (NS_0 _) w2))) hk3 hs3 (by (try dsimp only) <;> first | assumption | omega | ((try simp (disch := omega) only [w32_of, w64_of, w8_of]) <;> first | assumption | omega | (split <;> omega) | (refine And.intro ?_ ?_ <;> split <;> omega)) | omega)) ?_
    rintro ⟨x_6, σ_5⟩ - y3
    try dsimp only at y3 ⊢
    obtain ⟨hσ_5, flσ_5, g1, g2⟩ := y3
    have frσ_5 : FC [49920, 50176, 50432, 50688, 50944, (kE_size 194), (kE_placeX 194), (kE_placeY 194), kN_chain, kN_hot, kN_hotX, kN_hotY, kN_keyCount, kN_keys, kN_lengthless, kN_order, kN_pieceFrom, kN_pieceMask, kN_pieceTo, kN_pieces] [] σ σ_5 := FC_tr frσ_3 flσ_5 (by first | decide | (rcases hE with rfl | rfl | rfl <;> decide)) (by first | decide | (rcases hE with rfl | rfl | rfl <;> decide)) (by simp) (by simp)
    try simp (disch := omega) only [w32_of, w64_of, w8_of] at g1
    try simp (disch := omega) only [w32_of, w64_of, w8_of] at g2
    refine wp_if (fun c4 => ?_) (fun c4 => ?_)
    · try simp (disch := omega) only [w32_of, w64_of, w8_of, decide_eq_true_eq, decide_eq_false_iff_not, Bool.not_eq_true] at c4
      refine wp_bd (s_N_collect (σ := σ_5) (shape_0 := two_0) (mask_0 := 2) hσ_5 (by first | assumption | decide | omega) (SHa_f flσ_5 (by first | assumption | decide | omega) (NS_0 _) (SHa_f flσ_3 (by first | assumption | decide | omega) (NS_0 _) (SHa_f flσ_2 (by first | assumption | decide | omega) (NS_0 _) (SHa_f flσ_1 (by first | assumption | decide | omega) (NS_0 _) w1)))) (SNs_f flσ_5 (by first | assumption | decide | omega) (NS_0 _) (SNs_f flσ_3 (by first | assumption | decide | omega) (NS_0 _) (SNs_f flσ_2 (by first | assumption | decide | omega) (NS_0 _) (SNs_f flσ_1 (by first | assumption | decide | omega) (NS_0 _) w3)))) g1 g2 (by (try dsimp only) <;> first | assumption | omega | ((try simp (disch := omega) only [w32_of, w64_of, w8_of]) <;> first | assumption | omega | (split <;> omega) | (refine And.intro ?_ ?_ <;> split <;> omega)) | omega)) ?_
      rintro ⟨x_10, σ_9⟩ - y7
      try dsimp only at y7 ⊢
      obtain ⟨hσ_9, flσ_9, g5, g6⟩ := y7
      have frσ_9 : FC [49920, 50176, 50432, 50688, 50944, (kE_size 194), (kE_placeX 194), (kE_placeY 194), kN_chain, kN_hot, kN_hotX, kN_hotY, kN_keyCount, kN_keys, kN_lengthless, kN_order, kN_pieceFrom, kN_pieceMask, kN_pieceTo, kN_pieces] [] σ σ_9 := FC_tr frσ_5 flσ_9 (by first | decide | (rcases hE with rfl | rfl | rfl <;> decide)) (by first | decide | (rcases hE with rfl | rfl | rfl <;> decide)) (by simp) (by simp)
      try simp (disch := omega) only [w32_of, w64_of, w8_of] at g5
      try simp (disch := omega) only [w32_of, w64_of, w8_of] at g6
      refine wp_if (fun c8 => ?_) (fun c8 => ?_)
      · try simp (disch := omega) only [w32_of, w64_of, w8_of, decide_eq_true_eq, decide_eq_false_iff_not, Bool.not_eq_true] at c8
        refine wp_bd (s_N_addCrossings (σ := σ_9) hσ_9 g5 g6) ?_
        rintro ⟨x_14, σ_13⟩ - y10
        try dsimp only at y10 ⊢
        obtain ⟨hσ_13, flσ_13, g9⟩ := y10
        have frσ_13 : FC [49920, 50176, 50432, 50688, 50944, (kE_size 194), (kE_placeX 194), (kE_placeY 194), kN_chain, kN_hot, kN_hotX, kN_hotY, kN_keyCount, kN_keys, kN_lengthless, kN_order, kN_pieceFrom, kN_pieceMask, kN_pieceTo, kN_pieces] [] σ σ_13 := FC_tr frσ_9 flσ_13 (by first | decide | (rcases hE with rfl | rfl | rfl <;> decide)) (by first | decide | (rcases hE with rfl | rfl | rfl <;> decide)) (by simp) (by simp)
        try simp (disch := omega) only [w32_of, w64_of, w8_of] at g9
        refine wp_if (fun c11 => ?_) (fun c11 => ?_)
        · try simp (disch := omega) only [w32_of, w64_of, w8_of, decide_eq_true_eq, decide_eq_false_iff_not, Bool.not_eq_true] at c11
          refine wp_bd (s_N_sortHot (σ := σ_13) hσ_13 g9) ?_
          rintro ⟨x_18, σ_17⟩ - y12
          try dsimp only at y12 ⊢
          obtain ⟨hσ_17, flσ_17⟩ := y12
          have frσ_17 : FC [49920, 50176, 50432, 50688, 50944, (kE_size 194), (kE_placeX 194), (kE_placeY 194), kN_chain, kN_hot, kN_hotX, kN_hotY, kN_keyCount, kN_keys, kN_lengthless, kN_order, kN_pieceFrom, kN_pieceMask, kN_pieceTo, kN_pieces] [] σ σ_17 := FC_tr frσ_13 flσ_17 (by first | decide | (rcases hE with rfl | rfl | rfl <;> decide)) (by first | decide | (rcases hE with rfl | rfl | rfl <;> decide)) (by simp) (by simp)
          refine wp_if (fun c13 => ?_) (fun c13 => ?_)
          · try simp (disch := omega) only [w32_of, w64_of, w8_of, decide_eq_true_eq, decide_eq_false_iff_not, Bool.not_eq_true] at c13
            refine wp_bd (s_N_layChains (σ := σ_17) hσ_17) ?_
            rintro ⟨x_22, σ_21⟩ - y14
            try dsimp only at y14 ⊢
            obtain ⟨hσ_21, flσ_21, hpf⟩ := y14
            have frσ_21 : FC [49920, 50176, 50432, 50688, 50944, (kE_size 194), (kE_placeX 194), (kE_placeY 194), kN_chain, kN_hot, kN_hotX, kN_hotY, kN_keyCount, kN_keys, kN_lengthless, kN_order, kN_pieceFrom, kN_pieceMask, kN_pieceTo, kN_pieces] [] σ σ_21 := FC_tr frσ_17 flσ_21 (by first | decide | (rcases hE with rfl | rfl | rfl <;> decide)) (by first | decide | (rcases hE with rfl | rfl | rfl <;> decide)) (by simp) (by simp)
            have c15 := ii_kN_hot hσ_17 0
            try simp (disch := omega) only [w32_of, w64_of, w8_of] at hpf
            refine wp_if (fun c16 => ?_) (fun c16 => ?_)
            · have k17 := hpf c16
              try simp (disch := omega) only [w32_of, w64_of, w8_of] at k17
              try simp (disch := omega) only [w32_of, w64_of, w8_of, decide_eq_true_eq, decide_eq_false_iff_not, Bool.not_eq_true] at c16
              have c18 := ii_kN_hot hσ_21 0
              have c19 := FC_at flσ_21 (c := kN_hot) (by first | decide | (rcases hE with rfl | rfl | rfl <;> decide)) 0
              exact wp_some ⟨hσ_21, frσ_21, (by (try dsimp only) <;> (first | (intro q9; exact absurd q9 (by decide)) | (intro _; rw [show σ_21 kN_hot 0 = σ_17 kN_hot 0 from FC_at flσ_21 (c := kN_hot) (by decide) 0]; exact hpf (by assumption))))⟩
            · try simp (disch := omega) only [w32_of, w64_of, w8_of, decide_eq_true_eq, decide_eq_false_iff_not, Bool.not_eq_true] at c16
              have c21 := ii_kN_hot hσ_21 0
              have c22 := FC_at flσ_21 (c := kN_hot) (by first | decide | (rcases hE with rfl | rfl | rfl <;> decide)) 0
              exact wp_some ⟨hσ_21, frσ_21, (fun q => (by cases q))⟩
          · try simp (disch := omega) only [w32_of, w64_of, w8_of, decide_eq_true_eq, decide_eq_false_iff_not, Bool.not_eq_true] at c13
            have c23 := ii_kN_hot hσ_17 0
            exact wp_some ⟨hσ_17, frσ_17, (fun q => (by cases q))⟩
        · try simp (disch := omega) only [w32_of, w64_of, w8_of, decide_eq_true_eq, decide_eq_false_iff_not, Bool.not_eq_true] at c11
          have c24 := ii_kN_hot hσ_13 0
          have c25 := FC_at flσ_13 (c := kN_hot) (by first | decide | (rcases hE with rfl | rfl | rfl <;> decide)) 0
          have c26 := ii_kN_hot hσ_9 0
          have c27 := FC_at flσ_9 (c := kN_hot) (by first | decide | (rcases hE with rfl | rfl | rfl <;> decide)) 0
          have c28 := ii_kN_hot hσ_5 0
          have c29 := FC_at flσ_5 (c := kN_hot) (by first | decide | (rcases hE with rfl | rfl | rfl <;> decide)) 0
          have c30 := ii_kN_hot hσ_3 0
          have c31 := FC_at flσ_3 (c := kN_hot) (by first | decide | (rcases hE with rfl | rfl | rfl <;> decide)) 0
          have c32 := ii_kN_hot hσ_2 0
          have c33 := FC_at flσ_2 (c := kN_hot) (by first | decide | (rcases hE with rfl | rfl | rfl <;> decide)) 0
          have c34 := ii_kN_hot hσ_1 0
          have c35 := FC_at flσ_1 (c := kN_hot) (by first | decide | (rcases hE with rfl | rfl | rfl <;> decide)) 0
          have c36 := ii_kN_hot hσ 0
          exact wp_some ⟨hσ_13, frσ_13, (fun q => (by cases q))⟩
      · try simp (disch := omega) only [w32_of, w64_of, w8_of, decide_eq_true_eq, decide_eq_false_iff_not, Bool.not_eq_true] at c8
        have c37 := ii_kN_hot hσ_9 0
        have c38 := FC_at flσ_9 (c := kN_hot) (by first | decide | (rcases hE with rfl | rfl | rfl <;> decide)) 0
        have c39 := ii_kN_hot hσ_5 0
        have c40 := FC_at flσ_5 (c := kN_hot) (by first | decide | (rcases hE with rfl | rfl | rfl <;> decide)) 0
        have c41 := ii_kN_hot hσ_3 0
        have c42 := FC_at flσ_3 (c := kN_hot) (by first | decide | (rcases hE with rfl | rfl | rfl <;> decide)) 0
        have c43 := ii_kN_hot hσ_2 0
        have c44 := FC_at flσ_2 (c := kN_hot) (by first | decide | (rcases hE with rfl | rfl | rfl <;> decide)) 0
        have c45 := ii_kN_hot hσ_1 0
        have c46 := FC_at flσ_1 (c := kN_hot) (by first | decide | (rcases hE with rfl | rfl | rfl <;> decide)) 0
        have c47 := ii_kN_hot hσ 0
        exact wp_some ⟨hσ_9, frσ_9, (fun q => (by cases q))⟩
    · try simp (disch := omega) only [w32_of, w64_of, w8_of, decide_eq_true_eq, decide_eq_false_iff_not, Bool.not_eq_true] at c4
      have c48 := ii_kN_hot hσ_5 0
      have c49 := FC_at flσ_5 (c := kN_hot) (by first | decide | (rcases hE with rfl | rfl | rfl <;> decide)) 0
      have c50 := ii_kN_hot hσ_3 0
      have c51 := FC_at flσ_3 (c := kN_hot) (by first | decide | (rcases hE with rfl | rfl | rfl <;> decide)) 0
      have c52 := ii_kN_hot hσ_2 0
      have c53 := FC_at flσ_2 (c := kN_hot) (by first | decide | (rcases hE with rfl | rfl | rfl <;> decide)) 0
      have c54 := ii_kN_hot hσ_1 0
      have c55 := FC_at flσ_1 (c := kN_hot) (by first | decide | (rcases hE with rfl | rfl | rfl <;> decide)) 0
      have c56 := ii_kN_hot hσ 0
      exact wp_some ⟨hσ_5, frσ_5, (fun q => (by cases q))⟩
  rintro ⟨x_30, σ_31⟩ _ y57
  try dsimp only at y57 ⊢
  obtain ⟨hσ_31, frσ_31, hpz⟩ := y57
  have c58 := ii_kN_hot hσ_31 0
  exact wp_some ⟨hσ_31, frσ_31, (by (try dsimp only) <;> (exact hpz))⟩
