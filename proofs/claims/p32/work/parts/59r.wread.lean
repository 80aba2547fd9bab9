theorem v_failW {σ : SG} {code_0 : Int} (hσ : II σ) (qcode_0 : 1 ≤ code_0 ∧ code_0 ≤ 8) : wp_ (fW_fail σ code_0) (fun zz_ => II zz_.2 ∧ FC [kW_place, kW_wrong] [] σ zz_.2 ∧ (zz_.1 = false)) := by
  unfold fW_fail
  refine wp_wfI hσ b_kW_wrong (by (try dsimp only) <;> first | assumption | omega | ((try simp (disch := omega) only [w32_of, w64_of, w8_of]) <;> first | assumption | omega | (split <;> omega) | (refine And.intro ?_ ?_ <;> split <;> omega)) | omega) (fun σ_1 hσ_1 eσ_1 => ?_)
  try simp (disch := omega) only [w32_of, w64_of, w8_of] at eσ_1
  have flσ_1 := FC_sg eσ_1 (by first | decide | (rcases hE with rfl | rfl | rfl <;> decide))
  have frσ_1 : FC [kW_place, kW_wrong] [] σ σ_1 := FC_le flσ_1 (by first | decide | (rcases hE with rfl | rfl | rfl <;> decide)) (by simp)
  have c1 := ii_kW_at hσ_1 0
  have c2 := FC_at flσ_1 (c := kW_at) (by first | decide | (rcases hE with rfl | rfl | rfl <;> decide)) 0
  have c3 := ii_kW_at hσ 0
  refine wp_wfI hσ_1 b_kW_place (by (try dsimp only) <;> first | assumption | omega | ((try simp (disch := omega) only [w32_of, w64_of, w8_of]) <;> first | assumption | omega | (split <;> omega) | (refine And.intro ?_ ?_ <;> split <;> omega)) | omega) (fun σ_2 hσ_2 eσ_2 => ?_)
  try simp (disch := omega) only [w32_of, w64_of, w8_of] at eσ_2
  have flσ_2 := FC_sg eσ_2 (by first | decide | (rcases hE with rfl | rfl | rfl <;> decide))
  have frσ_2 : FC [kW_place, kW_wrong] [] σ σ_2 := FC_tr frσ_1 flσ_2 (by first | decide | (rcases hE with rfl | rfl | rfl <;> decide)) (by first | decide | (rcases hE with rfl | rfl | rfl <;> decide)) (by simp) (by simp)
  exact wp_some ⟨hσ_2, frσ_2, (by (try dsimp only) <;> first | assumption | omega | ((try simp (disch := omega) only [w32_of, w64_of, w8_of]) <;> first | assumption | omega | (split <;> omega) | (refine And.intro ?_ ?_ <;> split <;> omega)) | omega)⟩
theorem v_signAt {σ : SG} {i_0 : Int} (hσ : II σ) : wp_ (fW_signAt σ i_0) (fun zz_ => (zz_ = sgA σ i_0) ∧ (-1 ≤ zz_ ∧ zz_ ≤ 255)) := by
  unfold fW_signAt
  have hln := ii_kW_length hσ 0
  refine wp_bd (P := fun rr_ => ((-1) ≤ rr_ ∧ rr_ ≤ 255) ∧ (rr_ = sgA σ i_0)) ?_ ?_
  · have c2 := w32_rng i_0
    have c3 := ii_kW_length hσ 0
    have c4 := w32_rng (σ kW_length 0)
    refine wp_if (fun c1 => ?_) (fun c1 => ?_)
    · try simp (disch := omega) only [w32_of, w64_of, w8_of, decide_eq_true_eq, decide_eq_false_iff_not, Bool.not_eq_true] at c1
      refine wp_rdI (by (try dsimp only) <;> first | assumption | omega | ((try simp (disch := omega) only [w32_of, w64_of, w8_of]) <;> first | assumption | omega | (split <;> omega) | (refine And.intro ?_ ?_ <;> split <;> omega)) | omega) (by (try dsimp only) <;> first | assumption | omega | ((try simp (disch := omega) only [w32_of, w64_of, w8_of]) <;> first | assumption | omega | (split <;> omega) | (refine And.intro ?_ ?_ <;> split <;> omega)) | omega) (fun x_3 e_x_3 => ?_)
      have b_x_3 : (-128) ≤ x_3 ∧ x_3 ≤ 127 := by rw [e_x_3]; exact ii_kQ_tape hσ _
      try simp (disch := omega) only [w32_of, w64_of, w8_of] at e_x_3
      have c5 := ii_kQ_tape hσ i_0
      have c6 := w8_rng x_3
      have c7 := q_ian_bd (w8 x_3) (m := 255) (by decide) (by decide)
      try simp (disch := omega) only [w32_of, w64_of, w8_of] at c7
      exact wp_some ⟨(by (try dsimp only) <;> first | assumption | omega | ((try simp (disch := omega) only [w32_of, w64_of, w8_of]) <;> first | assumption | omega | (split <;> omega) | (refine And.intro ?_ ?_ <;> split <;> omega)) | omega), (by (try dsimp only) <;> (unfold sgA; rw [w32_of (x := σ kW_length 0) (by omega) (by omega)]; first | (rw [if_pos (by assumption), ← e_x_3]) | (rw [if_neg (by assumption)])))⟩
    · try simp (disch := omega) only [w32_of, w64_of, w8_of, decide_eq_true_eq, decide_eq_false_iff_not, Bool.not_eq_true] at c1
      exact wp_some ⟨(by (try dsimp only) <;> first | assumption | omega | ((try simp (disch := omega) only [w32_of, w64_of, w8_of]) <;> first | assumption | omega | (split <;> omega) | (refine And.intro ?_ ?_ <;> split <;> omega)) | omega), (by (try dsimp only) <;> (unfold sgA; rw [w32_of (x := σ kW_length 0) (by omega) (by omega)]; first | (rw [if_pos (by assumption), ← e_x_3]) | (rw [if_neg (by assumption)])))⟩
  rintro x_14 _ ⟨g8, g9⟩
  exact wp_some ⟨(by (try dsimp only) <;> first | assumption | omega | ((try simp (disch := omega) only [w32_of, w64_of, w8_of]) <;> first | assumption | omega | (split <;> omega) | (refine And.intro ?_ ?_ <;> split <;> omega)) | omega), (by (try dsimp only) <;> first | assumption | omega | ((try simp (disch := omega) only [w32_of, w64_of, w8_of]) <;> first | assumption | omega | (split <;> omega) | (refine And.intro ?_ ?_ <;> split <;> omega)) | omega)⟩
theorem s_W_skipBlanks {σ : SG} (hσ : II σ) : wp_ (fW_skipBlanks σ) (fun zz_ => II zz_ ∧ FC [kW_at] [] σ zz_ ∧ (σ kW_at 0 ≤ zz_ kW_at 0) ∧ (σ kW_at 0 ≤ σ kW_length 0 → zz_ kW_at 0 ≤ σ kW_length 0)) := by
  unfold fW_skipBlanks
  have hln := ii_kW_length hσ 0
  refine wp_bd (P := fun rr_ => II rr_ ∧ FC [kW_at] [] σ rr_ ∧ (σ kW_at 0 ≤ rr_ kW_at 0) ∧ (σ kW_at 0 ≤ σ kW_length 0 → rr_ kW_at 0 ≤ σ kW_length 0)) ?_ ?_
  · have c1 := ii_kW_at hσ 0
    have c2 := ii_kW_length hσ 0
    refine wp_whl (fun ss_ => II ss_ ∧ FC [kW_at] [] σ ss_ ∧ (σ kW_at 0 ≤ ss_ kW_at 0) ∧ (σ kW_at 0 ≤ σ kW_length 0 → ss_ kW_at 0 ≤ σ kW_length 0)) (fun ss_ => (65537 - ss_ kW_at 0).toNat) ⟨hσ, (FC_refl _ _ _), (by (try dsimp only) <;> first | assumption | omega | ((try simp (disch := omega) only [w32_of, w64_of, w8_of]) <;> first | assumption | omega | (split <;> omega) | (refine And.intro ?_ ?_ <;> split <;> omega)) | omega), (by (try dsimp only) <;> first | assumption | omega | ((try simp (disch := omega) only [w32_of, w64_of, w8_of]) <;> first | assumption | omega | (split <;> omega) | (refine And.intro ?_ ?_ <;> split <;> omega)) | omega)⟩ ?_
    rintro σ_1 ⟨hσ_1, frσ_1, g3, g4⟩
    have c6 := ii_kW_at hσ_1 0
    have c7 := w32_rng (σ_1 kW_at 0)
    have c8 := ii_kW_length hσ_1 0
    have c9 := FC_at frσ_1 (c := kW_length) (by first | decide | (rcases hE with rfl | rfl | rfl <;> decide)) 0
    have c10 := w32_rng (σ_1 kW_length 0)
    refine wp_if (fun c5 => ?_) (fun c5 => ?_)
    · try simp (disch := omega) only [w32_of, w64_of, w8_of, decide_eq_true_eq, decide_eq_false_iff_not, Bool.not_eq_true] at c5
      refine wp_rdI (by (try dsimp only) <;> first | assumption | omega | ((try simp (disch := omega) only [w32_of, w64_of, w8_of]) <;> first | assumption | omega | (split <;> omega) | (refine And.intro ?_ ?_ <;> split <;> omega)) | omega) (by (try dsimp only) <;> first | assumption | omega | ((try simp (disch := omega) only [w32_of, w64_of, w8_of]) <;> first | assumption | omega | (split <;> omega) | (refine And.intro ?_ ?_ <;> split <;> omega)) | omega) (fun x_18 e_x_18 => ?_)
      have b_x_18 : (-128) ≤ x_18 ∧ x_18 ≤ 127 := by rw [e_x_18]; exact ii_kQ_tape hσ_1 _
      rw [FC_at frσ_1 (c := kQ_tape) (by first | decide | (rcases hE with rfl | rfl | rfl <;> decide))] at e_x_18
      try simp (disch := omega) only [w32_of, w64_of, w8_of] at e_x_18
      have c11 := ii_kQ_tape hσ_1 (σ_1 kW_at 0)
      have c12 := FC_at frσ_1 (c := kQ_tape) (by first | decide | (rcases hE with rfl | rfl | rfl <;> decide)) (σ_1 kW_at 0)
      have c13 := ii_kQ_tape hσ (σ_1 kW_at 0)
      have c15 := w8_rng x_18
      refine wp_if (fun c14 => ?_) (fun c14 => ?_)
      · try simp (disch := omega) only [w32_of, w64_of, w8_of, decide_eq_true_eq, decide_eq_false_iff_not, Bool.not_eq_true, fW_isBlank] at c14
        refine wp_wfI hσ_1 b_kW_at (by (try dsimp only) <;> first | assumption | omega | ((try simp (disch := omega) only [w32_of, w64_of, w8_of]) <;> first | assumption | omega | (split <;> omega) | (refine And.intro ?_ ?_ <;> split <;> omega)) | omega) (fun σ_21 hσ_21 eσ_21 => ?_)
        try simp (disch := omega) only [w32_of, w64_of, w8_of] at eσ_21
        have flσ_21 := FC_sg eσ_21 (by first | decide | (rcases hE with rfl | rfl | rfl <;> decide))
        have frσ_21 : FC [kW_at] [] σ σ_21 := FC_tr frσ_1 flσ_21 (by first | decide | (rcases hE with rfl | rfl | rfl <;> decide)) (by first | decide | (rcases hE with rfl | rfl | rfl <;> decide)) (by simp) (by simp)
        have c16 := ii_kW_at hσ_21 0
        have c17 := sg_val eσ_21
        exact wp_some (x_inl ⟨⟨hσ_21, frσ_21, (by (try dsimp only) <;> first | assumption | omega | ((try simp (disch := omega) only [w32_of, w64_of, w8_of]) <;> first | assumption | omega | (split <;> omega) | (refine And.intro ?_ ?_ <;> split <;> omega)) | omega), (by (try dsimp only) <;> first | assumption | omega | ((try simp (disch := omega) only [w32_of, w64_of, w8_of]) <;> first | assumption | omega | (split <;> omega) | (refine And.intro ?_ ?_ <;> split <;> omega)) | omega)⟩, (by (try dsimp only) <;> first | assumption | omega | ((try simp (disch := omega) only [w32_of, w64_of, w8_of]) <;> first | assumption | omega | (split <;> omega) | (refine And.intro ?_ ?_ <;> split <;> omega)) | omega)⟩)
      · try simp (disch := omega) only [w32_of, w64_of, w8_of, decide_eq_true_eq, decide_eq_false_iff_not, Bool.not_eq_true, fW_isBlank] at c14
        exact wp_some (x_inr ⟨hσ_1, frσ_1, (by (try dsimp only) <;> first | assumption | omega | ((try simp (disch := omega) only [w32_of, w64_of, w8_of]) <;> first | assumption | omega | (split <;> omega) | (refine And.intro ?_ ?_ <;> split <;> omega)) | omega), (by (try dsimp only) <;> first | assumption | omega | ((try simp (disch := omega) only [w32_of, w64_of, w8_of]) <;> first | assumption | omega | (split <;> omega) | (refine And.intro ?_ ?_ <;> split <;> omega)) | omega)⟩)
    · try simp (disch := omega) only [w32_of, w64_of, w8_of, decide_eq_true_eq, decide_eq_false_iff_not, Bool.not_eq_true] at c5
      exact wp_some (x_inr ⟨hσ_1, frσ_1, (by (try dsimp only) <;> first | assumption | omega | ((try simp (disch := omega) only [w32_of, w64_of, w8_of]) <;> first | assumption | omega | (split <;> omega) | (refine And.intro ?_ ?_ <;> split <;> omega)) | omega), (by (try dsimp only) <;> first | assumption | omega | ((try simp (disch := omega) only [w32_of, w64_of, w8_of]) <;> first | assumption | omega | (split <;> omega) | (refine And.intro ?_ ?_ <;> split <;> omega)) | omega)⟩)
  rintro σ_25 _ ⟨hσ_25, frσ_25, g18, g19⟩
  have c20 := ii_kW_at hσ 0
  have c21 := ii_kW_at hσ_25 0
  have c22 := ii_kW_length hσ 0
  exact wp_some ⟨hσ_25, frσ_25, (by (try dsimp only) <;> first | assumption | omega | ((try simp (disch := omega) only [w32_of, w64_of, w8_of]) <;> first | assumption | omega | (split <;> omega) | (refine And.intro ?_ ?_ <;> split <;> omega)) | omega), (by (try dsimp only) <;> first | assumption | omega | ((try simp (disch := omega) only [w32_of, w64_of, w8_of]) <;> first | assumption | omega | (split <;> omega) | (refine And.intro ?_ ?_ <;> split <;> omega)) | omega)⟩
theorem s_W_unexpected {σ : SG} (hσ : II σ) : wp_ (fW_unexpected σ) (fun zz_ => II zz_.2 ∧ FC [kW_place, kW_wrong] [] σ zz_.2 ∧ (zz_.1 = false)) := by
  unfold fW_unexpected
  have c1 := ii_kW_at hσ 0
  refine wp_bd (v_signAt (σ := σ) (i_0 := (σ kW_at 0)) hσ) ?_
  rintro x_2 - ⟨hsg, g2⟩
  try simp (disch := omega) only [w32_of, w64_of, w8_of] at hsg
  try simp (disch := omega) only [w32_of, w64_of, w8_of] at g2
  have c3 := w32_rng x_2
  refine wp_lt (fun x_4 e_x_4 => ?_)
  try simp (disch := omega) only [w32_of, w64_of, w8_of] at e_x_4
  refine wp_bd (v_failW (σ := σ) (code_0 := (if (x_4 = true) then 3 else 1)) hσ (by (try dsimp only) <;> first | assumption | omega | ((try simp (disch := omega) only [w32_of, w64_of, w8_of]) <;> first | assumption | omega | (split <;> omega) | (refine And.intro ?_ ?_ <;> split <;> omega)) | omega)) ?_
  rintro ⟨x_8, σ_7⟩ - y4
  try dsimp only at y4 ⊢
  obtain ⟨hσ_7, flσ_7, hfl⟩ := y4
  have frσ_7 : FC [kW_place, kW_wrong] [] σ σ_7 := FC_le flσ_7 (by first | decide | (rcases hE with rfl | rfl | rfl <;> decide)) (by simp)
  try simp (disch := omega) only [w32_of, w64_of, w8_of] at hfl
  exact wp_some ⟨hσ_7, frσ_7, (by (try dsimp only) <;> (exact hfl))⟩
theorem v_behindWord {σ : SG} (hσ : II σ) : wp_ (fW_behindWord σ) (fun zz_ => (σ kW_at 0 ≤ zz_) ∧ (zz_ ≤ 65536) ∧ (σ kW_at 0 ≤ σ kW_length 0 → zz_ ≤ σ kW_length 0)) := by
  unfold fW_behindWord
  have hln := ii_kW_length hσ 0
  refine wp_bd (P := fun rr_ => (σ kW_at 0 ≤ rr_) ∧ (rr_ ≤ 65536) ∧ (σ kW_at 0 ≤ σ kW_length 0 → rr_ ≤ σ kW_length 0)) ?_ ?_
  · have c1 := ii_kW_at hσ 0
    have c2 := ii_kW_length hσ 0
    refine wp_whl (fun ss_ => (σ kW_at 0 ≤ ss_) ∧ (ss_ ≤ 65536) ∧ (σ kW_at 0 ≤ σ kW_length 0 → ss_ ≤ σ kW_length 0)) (fun ss_ => (65537 - ss_).toNat) ⟨(by (try dsimp only) <;> first | assumption | omega | ((try simp (disch := omega) only [w32_of, w64_of, w8_of]) <;> first | assumption | omega | (split <;> omega) | (refine And.intro ?_ ?_ <;> split <;> omega)) | omega), (by (try dsimp only) <;> first | assumption | omega | ((try simp (disch := omega) only [w32_of, w64_of, w8_of]) <;> first | assumption | omega | (split <;> omega) | (refine And.intro ?_ ?_ <;> split <;> omega)) | omega), (by (try dsimp only) <;> first | assumption | omega | ((try simp (disch := omega) only [w32_of, w64_of, w8_of]) <;> first | assumption | omega | (split <;> omega) | (refine And.intro ?_ ?_ <;> split <;> omega)) | omega)⟩ ?_
    rintro i_1 ⟨g3, g4, g5⟩
    have c7 := w32_rng i_1
    have c8 := w32_rng (σ kW_length 0)
    refine wp_if (fun c6 => ?_) (fun c6 => ?_)
    · try simp (disch := omega) only [w32_of, w64_of, w8_of, decide_eq_true_eq, decide_eq_false_iff_not, Bool.not_eq_true] at c6
      refine wp_rdI (by (try dsimp only) <;> first | assumption | omega | ((try simp (disch := omega) only [w32_of, w64_of, w8_of]) <;> first | assumption | omega | (split <;> omega) | (refine And.intro ?_ ?_ <;> split <;> omega)) | omega) (by (try dsimp only) <;> first | assumption | omega | ((try simp (disch := omega) only [w32_of, w64_of, w8_of]) <;> first | assumption | omega | (split <;> omega) | (refine And.intro ?_ ?_ <;> split <;> omega)) | omega) (fun x_18 e_x_18 => ?_)
      have b_x_18 : (-128) ≤ x_18 ∧ x_18 ≤ 127 := by rw [e_x_18]; exact ii_kQ_tape hσ _
      try simp (disch := omega) only [w32_of, w64_of, w8_of] at e_x_18
      have c9 := ii_kQ_tape hσ i_1
      have c11 := w8_rng x_18
      refine wp_if (fun c10 => ?_) (fun c10 => ?_)
      · try simp (disch := omega) only [w32_of, w64_of, w8_of, decide_eq_true_eq, decide_eq_false_iff_not, Bool.not_eq_true, fW_isLetter] at c10
        exact wp_some (x_inl ⟨⟨(by (try dsimp only) <;> first | assumption | omega | ((try simp (disch := omega) only [w32_of, w64_of, w8_of]) <;> first | assumption | omega | (split <;> omega) | (refine And.intro ?_ ?_ <;> split <;> omega)) | omega), (by (try dsimp only) <;> first | assumption | omega | ((try simp (disch := omega) only [w32_of, w64_of, w8_of]) <;> first | assumption | omega | (split <;> omega) | (refine And.intro ?_ ?_ <;> split <;> omega)) | omega), (by (try dsimp only) <;> first | assumption | omega | ((try simp (disch := omega) only [w32_of, w64_of, w8_of]) <;> first | assumption | omega | (split <;> omega) | (refine And.intro ?_ ?_ <;> split <;> omega)) | omega)⟩, (by (try dsimp only) <;> first | assumption | omega | ((try simp (disch := omega) only [w32_of, w64_of, w8_of]) <;> first | assumption | omega | (split <;> omega) | (refine And.intro ?_ ?_ <;> split <;> omega)) | omega)⟩)
      · try simp (disch := omega) only [w32_of, w64_of, w8_of, decide_eq_true_eq, decide_eq_false_iff_not, Bool.not_eq_true, fW_isLetter] at c10
        exact wp_some (x_inr ⟨(by (try dsimp only) <;> first | assumption | omega | ((try simp (disch := omega) only [w32_of, w64_of, w8_of]) <;> first | assumption | omega | (split <;> omega) | (refine And.intro ?_ ?_ <;> split <;> omega)) | omega), (by (try dsimp only) <;> first | assumption | omega | ((try simp (disch := omega) only [w32_of, w64_of, w8_of]) <;> first | assumption | omega | (split <;> omega) | (refine And.intro ?_ ?_ <;> split <;> omega)) | omega), (by (try dsimp only) <;> first | assumption | omega | ((try simp (disch := omega) only [w32_of, w64_of, w8_of]) <;> first | assumption | omega | (split <;> omega) | (refine And.intro ?_ ?_ <;> split <;> omega)) | omega)⟩)
    · try simp (disch := omega) only [w32_of, w64_of, w8_of, decide_eq_true_eq, decide_eq_false_iff_not, Bool.not_eq_true] at c6
      exact wp_some (x_inr ⟨(by (try dsimp only) <;> first | assumption | omega | ((try simp (disch := omega) only [w32_of, w64_of, w8_of]) <;> first | assumption | omega | (split <;> omega) | (refine And.intro ?_ ?_ <;> split <;> omega)) | omega), (by (try dsimp only) <;> first | assumption | omega | ((try simp (disch := omega) only [w32_of, w64_of, w8_of]) <;> first | assumption | omega | (split <;> omega) | (refine And.intro ?_ ?_ <;> split <;> omega)) | omega), (by (try dsimp only) <;> first | assumption | omega | ((try simp (disch := omega) only [w32_of, w64_of, w8_of]) <;> first | assumption | omega | (split <;> omega) | (refine And.intro ?_ ?_ <;> split <;> omega)) | omega)⟩)
  rintro i_24 _ ⟨g12, g13, g14⟩
  have c15 := ii_kW_at hσ 0
  have c16 := ii_kW_length hσ 0
  exact wp_some ⟨(by (try dsimp only) <;> first | assumption | omega | ((try simp (disch := omega) only [w32_of, w64_of, w8_of]) <;> first | assumption | omega | (split <;> omega) | (refine And.intro ?_ ?_ <;> split <;> omega)) | omega), (by (try dsimp only) <;> first | assumption | omega | ((try simp (disch := omega) only [w32_of, w64_of, w8_of]) <;> first | assumption | omega | (split <;> omega) | (refine And.intro ?_ ?_ <;> split <;> omega)) | omega), (by (try dsimp only) <;> first | assumption | omega | ((try simp (disch := omega) only [w32_of, w64_of, w8_of]) <;> first | assumption | omega | (split <;> omega) | (refine And.intro ?_ ?_ <;> split <;> omega)) | omega)⟩
theorem v_behindWordE {σ : SG} (hσ : II σ) : wp_ (fW_behindWord σ) (fun v => (σ kW_at 0 ≤ v) ∧ (v ≤ 65536) ∧ (σ kW_at 0 ≤ σ kW_length 0 → v ≤ σ kW_length 0) ∧ (fW_behindWord σ = some v)) := by
  obtain ⟨v, e, h1, h2, h3⟩ := v_behindWord hσ
  exact ⟨v, e, h1, h2, h3, e⟩
theorem s_W_goOnBehindItem {σ : SG} {s_9 : Nat} (hσ : II σ) (hs_s_9 : isS s_9) (hkσ : (σ kW_shape 0).toNat = s_9) (w0 : WCs σ s_9 (σ (kA_points s_9) 0)) : wp_ (fW_goOnBehindItem σ) (fun zz_ => II zz_.2 ∧ FC [kW_at, kW_collections, kW_depth, kW_place, kW_wrong] [] σ zz_.2 ∧ ((zz_.1 = true) → (WIs zz_.2 s_9)) ∧ ((zz_.1 = true) → (σ kW_at 0 ≤ zz_.2 kW_at 0)) ∧ ((zz_.1 = true) → (σ kW_at 0 ≤ σ kW_length 0 → zz_.2 kW_at 0 ≤ σ kW_length 0))) := by
  unfold fW_goOnBehindItem
  have c1 := iiA_points (s := s_9) hσ (by first | assumption | decide | omega) 0
  have hln := ii_kW_length hσ 0
  have hpt := iiA_points hσ hs_s_9 0
  try rw [hkσ]
  refine wp_bx (P := fun rr_ => II rr_ ∧ FC [kW_at, kW_collections, kW_depth, kW_place, kW_wrong] [] σ rr_ ∧ (WCs rr_ s_9 (σ (kA_points s_9) 0)) ∧ (rr_ kW_depth 0 ≤ 0) ∧ (σ kW_at 0 ≤ rr_ kW_at 0) ∧ (σ kW_at 0 ≤ σ kW_length 0 → rr_ kW_at 0 ≤ σ kW_length 0)) ?_ ?_
  · have c2 := ii_kW_at hσ 0
    have c3 := ii_kW_length hσ 0
    refine wp_whl (fun ss_ => II ss_ ∧ FC [kW_at, kW_collections, kW_depth, kW_place, kW_wrong] [] σ ss_ ∧ (WCs ss_ s_9 (σ (kA_points s_9) 0)) ∧ (σ kW_at 0 ≤ ss_ kW_at 0) ∧ (σ kW_at 0 ≤ σ kW_length 0 → ss_ kW_at 0 ≤ σ kW_length 0)) (fun ss_ => (ss_ kW_depth 0).toNat) ⟨hσ, (FC_refl _ _ _), (by (try dsimp only) <;> (first | exact w0 | exact WCs_pop hσ_1 hs_s_9 hwc hpt.2 hf31 (by decide) (by omega) (by omega))), (by (try dsimp only) <;> first | assumption | omega | ((try simp (disch := omega) only [w32_of, w64_of, w8_of]) <;> first | assumption | omega | (split <;> omega) | (refine And.intro ?_ ?_ <;> split <;> omega)) | omega), (by (try dsimp only) <;> first | assumption | omega | ((try simp (disch := omega) only [w32_of, w64_of, w8_of]) <;> first | assumption | omega | (split <;> omega) | (refine And.intro ?_ ?_ <;> split <;> omega)) | omega)⟩ ?_
    rintro σ_1 ⟨hσ_1, frσ_1, hwc, g4, g5⟩
    have hkσ_1 : (σ_1 kW_shape 0).toNat = s_9 := by rw [FC_at frσ_1 (c := kW_shape) (by decide)]; exact hkσ
    try rw [hkσ_1]
    have c7 := ii_kW_depth hσ_1 0
    have c8 := w32_rng (σ_1 kW_depth 0)
    refine wp_if (fun c6 => ?_) (fun c6 => ?_)
    · try simp (disch := omega) only [w32_of, w64_of, w8_of, decide_eq_true_eq, decide_eq_false_iff_not, Bool.not_eq_true] at c6
      refine wp_bd (s_W_skipBlanks (σ := σ_1) hσ_1) ?_
      rintro σ_11 - ⟨hσ_11, flσ_11, hsk, g9⟩
      have frσ_11 : FC [kW_at, kW_collections, kW_depth, kW_place, kW_wrong] [] σ σ_11 := FC_tr frσ_1 flσ_11 (by first | decide | (rcases hE with rfl | rfl | rfl <;> decide)) (by first | decide | (rcases hE with rfl | rfl | rfl <;> decide)) (by simp) (by simp)
      have hkσ_11 : (σ_11 kW_shape 0).toNat = s_9 := by rw [FC_at frσ_11 (c := kW_shape) (by decide)]; exact hkσ
      try rw [hkσ_11]
      have c10 := ii_kW_at hσ_1 0
      have c11 := ii_kW_at hσ_11 0
      try simp (disch := omega) only [w32_of, w64_of, w8_of] at hsk
      have c12 := ii_kW_length hσ_1 0
      have c13 := FC_at frσ_1 (c := kW_length) (by first | decide | (rcases hE with rfl | rfl | rfl <;> decide)) 0
      try simp (disch := omega) only [w32_of, w64_of, w8_of] at g9
      have c14 := ii_kW_depth hσ_11 0
      have c15 := FC_at flσ_11 (c := kW_depth) (by first | decide | (rcases hE with rfl | rfl | rfl <;> decide)) 0
      have c16 := w32_rng ((σ_11 kW_depth 0) - 1)
      refine wp_rdI (by (try dsimp only) <;> first | assumption | omega | ((try simp (disch := omega) only [w32_of, w64_of, w8_of]) <;> first | assumption | omega | (split <;> omega) | (refine And.intro ?_ ?_ <;> split <;> omega)) | omega) (by (try dsimp only) <;> first | assumption | omega | ((try simp (disch := omega) only [w32_of, w64_of, w8_of]) <;> first | assumption | omega | (split <;> omega) | (refine And.intro ?_ ?_ <;> split <;> omega)) | omega) (fun x_12 e_x_12 => ?_)
      have b_x_12 : 0 ≤ x_12 ∧ x_12 ≤ 8 := by rw [e_x_12]; exact ii_kW_levelKind hσ_11 _
      rw [FC_at frσ_11 (c := kW_levelKind) (by first | decide | (rcases hE with rfl | rfl | rfl <;> decide))] at e_x_12
      try simp (disch := omega) only [w32_of, w64_of, w8_of] at e_x_12
      have c17 := ii_kW_levelKind hσ_11 ((σ_11 kW_depth 0) - 1)
      have c18 := FC_at flσ_11 (c := kW_levelKind) (by first | decide | (rcases hE with rfl | rfl | rfl <;> decide)) ((σ_11 kW_depth 0) - 1)
      have c19 := ii_kW_levelKind hσ_1 ((σ_11 kW_depth 0) - 1)
      have c20 := FC_at frσ_1 (c := kW_levelKind) (by first | decide | (rcases hE with rfl | rfl | rfl <;> decide)) ((σ_11 kW_depth 0) - 1)
      have c21 := ii_kW_levelKind hσ ((σ_11 kW_depth 0) - 1)
      refine wp_bd (v_signAt (σ := σ_11) (i_0 := (σ_11 kW_at 0)) hσ_11) ?_
      rintro x_15 - ⟨hsg, g22⟩
      try simp (disch := omega) only [w32_of, w64_of, w8_of] at hsg
      try simp (disch := omega) only [w32_of, w64_of, w8_of] at g22
      have hl11b : σ_11 kW_length 0 = σ kW_length 0 := FC_at frσ_11 (c := kW_length) (by decide) 0
      have hat1 := ii_kW_at hσ_11 0
      have hl11 := ii_kW_length hσ_11 0
      have hin : 0 ≤ x_15 → σ_11 kW_at 0 < σ_11 kW_length 0 := fun q => by rw [hsg] at q; have := sgA_in hσ_11 q; rw [w32_of (by omega) (by omega)] at this; exact this.2
      have c24 := w32_rng x_15
      have c25 := w32_rng x_12
      refine wp_if (fun c23 => ?_) (fun c23 => ?_)
      · try simp (disch := omega) only [w32_of, w64_of, w8_of, decide_eq_true_eq, decide_eq_false_iff_not, Bool.not_eq_true] at c23
        refine wp_wfI hσ_11 b_kW_at (by (try dsimp only) <;> first | assumption | omega | ((try simp (disch := omega) only [w32_of, w64_of, w8_of]) <;> first | assumption | omega | (split <;> omega) | (refine And.intro ?_ ?_ <;> split <;> omega)) | omega) (fun σ_16 hσ_16 eσ_16 => ?_)
        try simp (disch := omega) only [w32_of, w64_of, w8_of] at eσ_16
        have flσ_16 := FC_sg eσ_16 (by first | decide | (rcases hE with rfl | rfl | rfl <;> decide))
        have frσ_16 : FC [kW_at, kW_collections, kW_depth, kW_place, kW_wrong] [] σ σ_16 := FC_tr frσ_11 flσ_16 (by first | decide | (rcases hE with rfl | rfl | rfl <;> decide)) (by first | decide | (rcases hE with rfl | rfl | rfl <;> decide)) (by simp) (by simp)
        have hkσ_16 : (σ_16 kW_shape 0).toNat = s_9 := by rw [FC_at frσ_16 (c := kW_shape) (by decide)]; exact hkσ
        try rw [hkσ_16]
        have c26 := ii_kW_at hσ_16 0
        have c27 := sg_val eσ_16
        exact wp_some (x_inr (x_inr ⟨hσ_16, frσ_16, (by (try dsimp only) <;> (intro q9; first | (rw [hfl] at q9; exact absurd q9 (by decide)) | (rw [hun] at q9; exact absurd q9 (by decide)) | exact WIs_0 (by rw [FC_points frσ_42 hs_s_9 (NS_0 _)]) hwc (by assumption) | exact WIs_n (by rw [FC_points frσ_16 hs_s_9 (NS_0 _)]; exact WCs_f (WCs_f hwc flσ_11 hs_s_9 (by decide)) flσ_16 hs_s_9 (by decide)) (by rw [FC_at flσ_16 (c := kW_depth) (by decide), FC_at flσ_16 (c := kW_levelKind) (by decide), FC_at frσ_11 (c := kW_levelKind) (by decide), ← e_x_12]; omega))), (by (try dsimp only) <;> (intro q9; first | (rw [hfl] at q9; exact absurd q9 (by decide)) | (rw [hun] at q9; exact absurd q9 (by decide)) | omega)), (by (try dsimp only) <;> (intro q9; first | (rw [hfl] at q9; exact absurd q9 (by decide)) | (rw [hun] at q9; exact absurd q9 (by decide)) | omega))⟩))
      · try simp (disch := omega) only [w32_of, w64_of, w8_of, decide_eq_true_eq, decide_eq_false_iff_not, Bool.not_eq_true] at c23
        refine wp_if (fun c28 => ?_) (fun c28 => ?_)
        · try simp (disch := omega) only [w32_of, w64_of, w8_of, decide_eq_true_eq, decide_eq_false_iff_not, Bool.not_eq_true] at c28
          refine wp_bd (s_W_unexpected (σ := σ_11) hσ_11) ?_
          rintro ⟨x_20, σ_19⟩ - y29
          try dsimp only at y29 ⊢
          obtain ⟨hσ_19, flσ_19, hun⟩ := y29
          have frσ_19 : FC [kW_at, kW_collections, kW_depth, kW_place, kW_wrong] [] σ σ_19 := FC_tr frσ_11 flσ_19 (by first | decide | (rcases hE with rfl | rfl | rfl <;> decide)) (by first | decide | (rcases hE with rfl | rfl | rfl <;> decide)) (by simp) (by simp)
          have hkσ_19 : (σ_19 kW_shape 0).toNat = s_9 := by rw [FC_at frσ_19 (c := kW_shape) (by decide)]; exact hkσ
          try rw [hkσ_19]
          try simp (disch := omega) only [w32_of, w64_of, w8_of] at hun
          have c30 := ii_kW_at hσ_19 0
          have c31 := FC_at flσ_19 (c := kW_at) (by first | decide | (rcases hE with rfl | rfl | rfl <;> decide)) 0
          exact wp_some (x_inr (x_inr ⟨hσ_19, frσ_19, (fun q => absurd (q.symm.trans hun) (by decide)), (fun q => absurd (q.symm.trans hun) (by decide)), (fun q => absurd (q.symm.trans hun) (by decide))⟩))
        · try simp (disch := omega) only [w32_of, w64_of, w8_of, decide_eq_true_eq, decide_eq_false_iff_not, Bool.not_eq_true] at c28
          refine wp_wfI hσ_11 b_kW_at (by (try dsimp only) <;> first | assumption | omega | ((try simp (disch := omega) only [w32_of, w64_of, w8_of]) <;> first | assumption | omega | (split <;> omega) | (refine And.intro ?_ ?_ <;> split <;> omega)) | omega) (fun σ_21 hσ_21 eσ_21 => ?_)
          try simp (disch := omega) only [w32_of, w64_of, w8_of] at eσ_21
          have flσ_21 := FC_sg eσ_21 (by first | decide | (rcases hE with rfl | rfl | rfl <;> decide))
          have frσ_21 : FC [kW_at, kW_collections, kW_depth, kW_place, kW_wrong] [] σ σ_21 := FC_tr frσ_11 flσ_21 (by first | decide | (rcases hE with rfl | rfl | rfl <;> decide)) (by first | decide | (rcases hE with rfl | rfl | rfl <;> decide)) (by simp) (by simp)
          have hkσ_21 : (σ_21 kW_shape 0).toNat = s_9 := by rw [FC_at frσ_21 (c := kW_shape) (by decide)]; exact hkσ
          try rw [hkσ_21]
          have c32 := ii_kW_depth hσ_21 0
          have c33 := FC_at flσ_21 (c := kW_depth) (by first | decide | (rcases hE with rfl | rfl | rfl <;> decide)) 0
          refine wp_wfI hσ_21 b_kW_depth (by (try dsimp only) <;> first | assumption | omega | ((try simp (disch := omega) only [w32_of, w64_of, w8_of]) <;> first | assumption | omega | (split <;> omega) | (refine And.intro ?_ ?_ <;> split <;> omega)) | omega) (fun σ_22 hσ_22 eσ_22 => ?_)
          try simp (disch := omega) only [w32_of, w64_of, w8_of] at eσ_22
          have flσ_22 := FC_sg eσ_22 (by first | decide | (rcases hE with rfl | rfl | rfl <;> decide))
          have frσ_22 : FC [kW_at, kW_collections, kW_depth, kW_place, kW_wrong] [] σ σ_22 := FC_tr frσ_21 flσ_22 (by first | decide | (rcases hE with rfl | rfl | rfl <;> decide)) (by first | decide | (rcases hE with rfl | rfl | rfl <;> decide)) (by simp) (by simp)
          have hkσ_22 : (σ_22 kW_shape 0).toNat = s_9 := by rw [FC_at frσ_22 (c := kW_shape) (by decide)]; exact hkσ
          try rw [hkσ_22]
          refine wp_bd (P := fun rr_ => II rr_ ∧ FC [kW_at, kW_collections, kW_depth, kW_place, kW_wrong] [] σ rr_ ∧ (rr_ kW_depth 0 = σ_1 kW_depth 0 - 1) ∧ (rr_ kW_at 0 = σ_11 kW_at 0 + 1) ∧ (FC [kW_at, kW_collections, kW_depth] [] σ_1 rr_)) ?_ ?_
          · refine wp_if (fun c34 => ?_) (fun c34 => ?_)
            · try simp (disch := omega) only [w32_of, w64_of, w8_of, decide_eq_true_eq, decide_eq_false_iff_not, Bool.not_eq_true] at c34
              have c35 := FC_at flσ_22 (c := kW_collections) (by first | decide | (rcases hE with rfl | rfl | rfl <;> decide)) 0
              have c36 := FC_at flσ_21 (c := kW_collections) (by first | decide | (rcases hE with rfl | rfl | rfl <;> decide)) 0
              have c37 := FC_at flσ_11 (c := kW_collections) (by first | decide | (rcases hE with rfl | rfl | rfl <;> decide)) 0
              refine wp_wfN hσ_22 b_kW_collections (fun σ_28 hσ_28 eσ_28 => ?_)
              try simp (disch := omega) only [w32_of, w64_of, w8_of] at eσ_28
              have flσ_28 := FC_sg eσ_28 (by first | decide | (rcases hE with rfl | rfl | rfl <;> decide))
              have frσ_28 : FC [kW_at, kW_collections, kW_depth, kW_place, kW_wrong] [] σ σ_28 := FC_tr frσ_22 flσ_28 (by first | decide | (rcases hE with rfl | rfl | rfl <;> decide)) (by first | decide | (rcases hE with rfl | rfl | rfl <;> decide)) (by simp) (by simp)
              have hkσ_28 : (σ_28 kW_shape 0).toNat = s_9 := by rw [FC_at frσ_28 (c := kW_shape) (by decide)]; exact hkσ
              try rw [hkσ_28]
              have c38 := ii_kW_depth hσ_28 0
              have c39 := FC_at flσ_28 (c := kW_depth) (by first | decide | (rcases hE with rfl | rfl | rfl <;> decide)) 0
              have c40 := ii_kW_depth hσ_22 0
              have c41 := sg_val eσ_22
              have c42 := ii_kW_at hσ_28 0
              have c43 := FC_at flσ_28 (c := kW_at) (by first | decide | (rcases hE with rfl | rfl | rfl <;> decide)) 0
              have c44 := ii_kW_at hσ_22 0
              have c45 := FC_at flσ_22 (c := kW_at) (by first | decide | (rcases hE with rfl | rfl | rfl <;> decide)) 0
              have c46 := ii_kW_at hσ_21 0
              have c47 := sg_val eσ_21
              exact wp_some ⟨hσ_28, frσ_28, (by (try dsimp only) <;> first | assumption | omega | ((try simp (disch := omega) only [w32_of, w64_of, w8_of]) <;> first | assumption | omega | (split <;> omega) | (refine And.intro ?_ ?_ <;> split <;> omega)) | omega), (by (try dsimp only) <;> first | assumption | omega | ((try simp (disch := omega) only [w32_of, w64_of, w8_of]) <;> first | assumption | omega | (split <;> omega) | (refine And.intro ?_ ?_ <;> split <;> omega)) | omega), (by (try dsimp only) <;> (first | exact FC_tr (ms := [kW_at, kW_collections, kW_depth]) (ss := []) (FC_tr (ms := [kW_at, kW_collections, kW_depth]) (ss := []) (FC_tr (ms := [kW_at, kW_collections, kW_depth]) (ss := []) (FC_le flσ_11 (ms := [kW_at, kW_collections, kW_depth]) (ss := []) (by decide) (by simp)) flσ_21 (by decide) (by decide) (by simp) (by simp)) flσ_22 (by decide) (by decide) (by simp) (by simp)) flσ_28 (by decide) (by decide) (by simp) (by simp) | exact FC_tr (ms := [kW_at, kW_collections, kW_depth]) (ss := []) (FC_tr (ms := [kW_at, kW_collections, kW_depth]) (ss := []) (FC_le flσ_11 (ms := [kW_at, kW_collections, kW_depth]) (ss := []) (by decide) (by simp)) flσ_21 (by decide) (by decide) (by simp) (by simp)) flσ_22 (by decide) (by decide) (by simp) (by simp)))⟩
            · try simp (disch := omega) only [w32_of, w64_of, w8_of, decide_eq_true_eq, decide_eq_false_iff_not, Bool.not_eq_true] at c34
              have c48 := ii_kW_depth hσ_22 0
              have c49 := sg_val eσ_22
              have c50 := ii_kW_at hσ_22 0
              have c51 := FC_at flσ_22 (c := kW_at) (by first | decide | (rcases hE with rfl | rfl | rfl <;> decide)) 0
              have c52 := ii_kW_at hσ_21 0
              have c53 := sg_val eσ_21
              exact wp_some ⟨hσ_22, frσ_22, (by (try dsimp only) <;> first | assumption | omega | ((try simp (disch := omega) only [w32_of, w64_of, w8_of]) <;> first | assumption | omega | (split <;> omega) | (refine And.intro ?_ ?_ <;> split <;> omega)) | omega), (by (try dsimp only) <;> first | assumption | omega | ((try simp (disch := omega) only [w32_of, w64_of, w8_of]) <;> first | assumption | omega | (split <;> omega) | (refine And.intro ?_ ?_ <;> split <;> omega)) | omega), (by (try dsimp only) <;> (first | exact FC_tr (ms := [kW_at, kW_collections, kW_depth]) (ss := []) (FC_tr (ms := [kW_at, kW_collections, kW_depth]) (ss := []) (FC_tr (ms := [kW_at, kW_collections, kW_depth]) (ss := []) (FC_le flσ_11 (ms := [kW_at, kW_collections, kW_depth]) (ss := []) (by decide) (by simp)) flσ_21 (by decide) (by decide) (by simp) (by simp)) flσ_22 (by decide) (by decide) (by simp) (by simp)) flσ_28 (by decide) (by decide) (by simp) (by simp) | exact FC_tr (ms := [kW_at, kW_collections, kW_depth]) (ss := []) (FC_tr (ms := [kW_at, kW_collections, kW_depth]) (ss := []) (FC_le flσ_11 (ms := [kW_at, kW_collections, kW_depth]) (ss := []) (by decide) (by simp)) flσ_21 (by decide) (by decide) (by simp) (by simp)) flσ_22 (by decide) (by decide) (by simp) (by simp)))⟩
          rintro σ_31 _ ⟨hσ_31, frσ_31, g54, g55, hf31⟩
          have hkσ_31 : (σ_31 kW_shape 0).toNat = s_9 := by rw [FC_at frσ_31 (c := kW_shape) (by decide)]; exact hkσ
          try rw [hkσ_31]
          have c56 := ii_kW_at hσ_31 0
          have c57 := ii_kW_depth hσ_31 0
          exact wp_some (x_inl ⟨⟨hσ_31, frσ_31, (by (try dsimp only) <;> (first | exact w0 | exact WCs_pop hσ_1 hs_s_9 hwc hpt.2 hf31 (by decide) (by omega) (by omega))), (by (try dsimp only) <;> first | assumption | omega | ((try simp (disch := omega) only [w32_of, w64_of, w8_of]) <;> first | assumption | omega | (split <;> omega) | (refine And.intro ?_ ?_ <;> split <;> omega)) | omega), (by (try dsimp only) <;> first | assumption | omega | ((try simp (disch := omega) only [w32_of, w64_of, w8_of]) <;> first | assumption | omega | (split <;> omega) | (refine And.intro ?_ ?_ <;> split <;> omega)) | omega)⟩, (by (try dsimp only) <;> first | assumption | omega | ((try simp (disch := omega) only [w32_of, w64_of, w8_of]) <;> first | assumption | omega | (split <;> omega) | (refine And.intro ?_ ?_ <;> split <;> omega)) | omega)⟩)
    · try simp (disch := omega) only [w32_of, w64_of, w8_of, decide_eq_true_eq, decide_eq_false_iff_not, Bool.not_eq_true] at c6
      have c58 := ii_kW_at hσ_1 0
      exact wp_some (x_inr (x_inl ⟨hσ_1, frσ_1, (by (try dsimp only) <;> (exact hwc)), (by (try dsimp only) <;> first | assumption | omega | ((try simp (disch := omega) only [w32_of, w64_of, w8_of]) <;> first | assumption | omega | (split <;> omega) | (refine And.intro ?_ ?_ <;> split <;> omega)) | omega), (by (try dsimp only) <;> first | assumption | omega | ((try simp (disch := omega) only [w32_of, w64_of, w8_of]) <;> first | assumption | omega | (split <;> omega) | (refine And.intro ?_ ?_ <;> split <;> omega)) | omega), (by (try dsimp only) <;> first | assumption | omega | ((try simp (disch := omega) only [w32_of, w64_of, w8_of]) <;> first | assumption | omega | (split <;> omega) | (refine And.intro ?_ ?_ <;> split <;> omega)) | omega)⟩))
  rintro σ_42 ⟨hσ_42, frσ_42, hwc, g59, g60, g61⟩
  have hkσ_42 : (σ_42 kW_shape 0).toNat = s_9 := by rw [FC_at frσ_42 (c := kW_shape) (by decide)]; exact hkσ
  try rw [hkσ_42]
  have c62 := ii_kW_at hσ 0
  have c63 := ii_kW_at hσ_42 0
  have c64 := ii_kW_length hσ 0
  exact wp_some ⟨hσ_42, frσ_42, (by (try dsimp only) <;> (intro q9; first | (rw [hfl] at q9; exact absurd q9 (by decide)) | (rw [hun] at q9; exact absurd q9 (by decide)) | exact WIs_0 (by rw [FC_points frσ_42 hs_s_9 (NS_0 _)]) hwc (by assumption) | exact WIs_n (by rw [FC_points frσ_16 hs_s_9 (NS_0 _)]; exact WCs_f (WCs_f hwc flσ_11 hs_s_9 (by decide)) flσ_16 hs_s_9 (by decide)) (by rw [FC_at flσ_16 (c := kW_depth) (by decide), FC_at flσ_16 (c := kW_levelKind) (by decide), FC_at frσ_11 (c := kW_levelKind) (by decide), ← e_x_12]; omega))), (by (try dsimp only) <;> (intro q9; first | (rw [hfl] at q9; exact absurd q9 (by decide)) | (rw [hun] at q9; exact absurd q9 (by decide)) | omega)), (by (try dsimp only) <;> (intro q9; first | (rw [hfl] at q9; exact absurd q9 (by decide)) | (rw [hun] at q9; exact absurd q9 (by decide)) | omega))⟩
theorem s_W_digitsFrom {σ : SG} {from_0 : Int} (hσ : II σ) (w0 : 0 ≤ from_0 ∧ from_0 ≤ σ kW_length 0) : wp_ (fW_digitsFrom σ from_0) (fun zz_ => (0 ≤ zz_) ∧ (from_0 + zz_ ≤ σ kW_length 0) ∧ (DGs σ from_0 zz_)) := by
  unfold fW_digitsFrom
  have c1 := ii_kW_length hσ 0
  have hln := ii_kW_length hσ 0
  refine wp_bd (P := fun rr_ => (from_0 ≤ rr_ ∧ rr_ ≤ σ kW_length 0) ∧ (DGs σ from_0 (rr_ - from_0))) ?_ ?_
  · refine wp_whl (fun ss_ => (from_0 ≤ ss_ ∧ ss_ ≤ σ kW_length 0) ∧ (DGs σ from_0 (ss_ - from_0))) (fun ss_ => (65537 - ss_).toNat) ⟨(by (try dsimp only) <;> first | assumption | omega | ((try simp (disch := omega) only [w32_of, w64_of, w8_of]) <;> first | assumption | omega | (split <;> omega) | (refine And.intro ?_ ?_ <;> split <;> omega)) | omega), (by (try dsimp only) <;> (first | (intro k a b; omega) | (intro k a b; by_cases z : k < i_1 - from_0 <;> first | exact hdg k a z | (rw [show from_0 + k = i_1 by omega]; omega))))⟩ ?_
    rintro i_1 ⟨g2, hdg⟩
    have c4 := w32_rng i_1
    have c5 := w32_rng (σ kW_length 0)
    refine wp_if (fun c3 => ?_) (fun c3 => ?_)
    · try simp (disch := omega) only [w32_of, w64_of, w8_of, decide_eq_true_eq, decide_eq_false_iff_not, Bool.not_eq_true] at c3
      refine wp_bd (v_signAt (σ := σ) (i_0 := i_1) hσ) ?_
      rintro x_19 - ⟨hsg, g6⟩
      try simp (disch := omega) only [w32_of, w64_of, w8_of] at hsg
      try simp (disch := omega) only [w32_of, w64_of, w8_of] at g6
      refine wp_if (fun c7 => ?_) (fun c7 => ?_)
      · try simp (disch := omega) only [w32_of, w64_of, w8_of, decide_eq_true_eq, decide_eq_false_iff_not, Bool.not_eq_true, fW_isDigit] at c7
        have hdd : 48 ≤ x_19 ∧ x_19 ≤ 57 := by omega
        exact wp_some (x_inl ⟨⟨(by (try dsimp only) <;> first | assumption | omega | ((try simp (disch := omega) only [w32_of, w64_of, w8_of]) <;> first | assumption | omega | (split <;> omega) | (refine And.intro ?_ ?_ <;> split <;> omega)) | omega), (by (try dsimp only) <;> (first | (intro k a b; omega) | (intro k a b; by_cases z : k < i_1 - from_0 <;> first | exact hdg k a z | (rw [show from_0 + k = i_1 by omega]; omega))))⟩, (by (try dsimp only) <;> first | assumption | omega | ((try simp (disch := omega) only [w32_of, w64_of, w8_of]) <;> first | assumption | omega | (split <;> omega) | (refine And.intro ?_ ?_ <;> split <;> omega)) | omega)⟩)
      · try simp (disch := omega) only [w32_of, w64_of, w8_of, decide_eq_true_eq, decide_eq_false_iff_not, Bool.not_eq_true, fW_isDigit] at c7
        exact wp_some (x_inr ⟨(by (try dsimp only) <;> first | assumption | omega | ((try simp (disch := omega) only [w32_of, w64_of, w8_of]) <;> first | assumption | omega | (split <;> omega) | (refine And.intro ?_ ?_ <;> split <;> omega)) | omega), (by (try dsimp only) <;> (exact hdg))⟩)
    · try simp (disch := omega) only [w32_of, w64_of, w8_of, decide_eq_true_eq, decide_eq_false_iff_not, Bool.not_eq_true] at c3
      exact wp_some (x_inr ⟨(by (try dsimp only) <;> first | assumption | omega | ((try simp (disch := omega) only [w32_of, w64_of, w8_of]) <;> first | assumption | omega | (split <;> omega) | (refine And.intro ?_ ?_ <;> split <;> omega)) | omega), (by (try dsimp only) <;> (exact hdg))⟩)
  rintro i_24 _ ⟨g8, hdg⟩
  exact wp_some ⟨(by (try dsimp only) <;> first | assumption | omega | ((try simp (disch := omega) only [w32_of, w64_of, w8_of]) <;> first | assumption | omega | (split <;> omega) | (refine And.intro ?_ ?_ <;> split <;> omega)) | omega), (by (try dsimp only) <;> first | assumption | omega | ((try simp (disch := omega) only [w32_of, w64_of, w8_of]) <;> first | assumption | omega | (split <;> omega) | (refine And.intro ?_ ?_ <;> split <;> omega)) | omega), (by (try dsimp only) <;> (exact hdg))⟩
theorem s_W_exponentFrom {σ : SG} {from_0 : Int} {size_0 : Int} (hσ : II σ) (w0 : 0 ≤ size_0 ∧ size_0 ≤ 65536) : wp_ (fW_exponentFrom σ from_0 size_0) (fun zz_ => (-2147483648 ≤ zz_ ∧ zz_ ≤ 1000000)) := by
  unfold fW_exponentFrom
  refine wp_bd (P := fun rr_ => (-2147483648 ≤ rr_.1 ∧ rr_.1 ≤ 1000000)) ?_ ?_
  · refine wp_whl (fun ss_ => (0 ≤ ss_.2 ∧ ss_.2 ≤ 65536) ∧ (-2147483648 ≤ ss_.1 ∧ ss_.1 ≤ 1000000)) (fun ss_ => (65537 - ss_.2).toNat) ⟨(by (try dsimp only) <;> first | assumption | omega | ((try simp (disch := omega) only [w32_of, w64_of, w8_of]) <;> first | assumption | omega | (split <;> omega) | (refine And.intro ?_ ?_ <;> split <;> omega)) | omega), (by (try dsimp only) <;> first | assumption | omega | ((try simp (disch := omega) only [w32_of, w64_of, w8_of]) <;> first | assumption | omega | (split <;> omega) | (refine And.intro ?_ ?_ <;> split <;> omega)) | omega)⟩ ?_
    rintro ⟨value_1, i_2⟩ y3
    try dsimp only at y3 ⊢
    obtain ⟨g1, g2⟩ := y3
    have c5 := w32_rng i_2
    have c6 := w32_rng size_0
    refine wp_if (fun c4 => ?_) (fun c4 => ?_)
    · try simp (disch := omega) only [w32_of, w64_of, w8_of, decide_eq_true_eq, decide_eq_false_iff_not, Bool.not_eq_true] at c4
      refine wp_bd (v_signAt (σ := σ) (i_0 := (from_0 + i_2)) hσ) ?_
      rintro x_12 - ⟨hsg, g7⟩
      try simp (disch := omega) only [w32_of, w64_of, w8_of] at hsg
      try simp (disch := omega) only [w32_of, w64_of, w8_of] at g7
      have hmn := q_mni_bd (((value_1 * 10) + x_12) - 48) 1000000
      have hwr := w32_rng (((value_1 * 10) + x_12) - 48)
      have hwm := w32_of (x := 1000000) (by omega) (by omega)
      exact wp_some (x_inl ⟨⟨(by (try dsimp only) <;> first | assumption | omega | ((try simp (disch := omega) only [w32_of, w64_of, w8_of]) <;> first | assumption | omega | (split <;> omega) | (refine And.intro ?_ ?_ <;> split <;> omega)) | omega), (by (try dsimp only) <;> first | assumption | omega | ((try simp (disch := omega) only [w32_of, w64_of, w8_of]) <;> first | assumption | omega | (split <;> omega) | (refine And.intro ?_ ?_ <;> split <;> omega)) | omega)⟩, (by (try dsimp only) <;> first | assumption | omega | ((try simp (disch := omega) only [w32_of, w64_of, w8_of]) <;> first | assumption | omega | (split <;> omega) | (refine And.intro ?_ ?_ <;> split <;> omega)) | omega)⟩)
    · try simp (disch := omega) only [w32_of, w64_of, w8_of, decide_eq_true_eq, decide_eq_false_iff_not, Bool.not_eq_true] at c4
      exact wp_some (x_inr (by (try dsimp only) <;> first | assumption | omega | ((try simp (disch := omega) only [w32_of, w64_of, w8_of]) <;> first | assumption | omega | (split <;> omega) | (refine And.intro ?_ ?_ <;> split <;> omega)) | omega))
  rintro ⟨value_15, i_16⟩ _ y9
  try dsimp only at y9 ⊢
  have g8 := y9
  exact wp_some (by (try dsimp only) <;> first | assumption | omega | ((try simp (disch := omega) only [w32_of, w64_of, w8_of]) <;> first | assumption | omega | (split <;> omega) | (refine And.intro ?_ ?_ <;> split <;> omega)) | omega)
theorem s_W_roundedFrom {σ : SG} {from_0 : Int} {whole_0 : Int} {fraction_0 : Int} {power_0 : Int} (hσ : II σ) (w0 : 0 ≤ from_0 ∧ from_0 ≤ 65536) (w1 : 0 ≤ whole_0 ∧ whole_0 ≤ 65536) (w2 : 0 ≤ fraction_0 ∧ fraction_0 ≤ 65536) (w3 : DGs σ from_0 whole_0) (w4 : DGs σ (from_0 + whole_0 + 1) fraction_0) : wp_ (fW_roundedFrom σ from_0 whole_0 fraction_0 power_0) (fun zz_ => (0 ≤ zz_ ∧ zz_ ≤ 10000000001)) := by
  unfold fW_roundedFrom
  refine wp_bd (P := fun rr_ => (0 ≤ rr_.1 ∧ rr_.1 ≤ 10000000000) ∧ (-128 ≤ rr_.2.1 ∧ rr_.2.1 ≤ 255)) ?_ ?_
  · refine wp_whl (fun ss_ => (0 ≤ ss_.2.2.2 ∧ ss_.2.2.2 ≤ whole_0 + fraction_0) ∧ (0 ≤ ss_.1 ∧ ss_.1 ≤ 10000000000) ∧ (-128 ≤ ss_.2.1 ∧ ss_.2.1 ≤ 255)) (fun ss_ => (131073 - ss_.2.2.2).toNat) ⟨(by (try dsimp only) <;> first | assumption | omega | ((try simp (disch := omega) only [w32_of, w64_of, w8_of]) <;> first | assumption | omega | (split <;> omega) | (refine And.intro ?_ ?_ <;> split <;> omega)) | omega), (by (try dsimp only) <;> first | assumption | omega | ((try simp (disch := omega) only [w32_of, w64_of, w8_of]) <;> first | assumption | omega | (split <;> omega) | (refine And.intro ?_ ?_ <;> split <;> omega)) | omega), (by (try dsimp only) <;> first | assumption | omega | ((try simp (disch := omega) only [w32_of, w64_of, w8_of]) <;> first | assumption | omega | (split <;> omega) | (refine And.intro ?_ ?_ <;> split <;> omega)) | omega)⟩ ?_
    rintro ⟨value_1, next_2, more_3, i_4⟩ y4
    try dsimp only at y4 ⊢
    obtain ⟨g1, g2, g3⟩ := y4
    have c6 := w32_rng i_4
    have c7 := w32_rng (whole_0 + fraction_0)
    refine wp_if (fun c5 => ?_) (fun c5 => ?_)
    · try simp (disch := omega) only [w32_of, w64_of, w8_of, decide_eq_true_eq, decide_eq_false_iff_not, Bool.not_eq_true] at c5
      have c8 := w32_rng whole_0
      refine wp_bd (v_signAt (σ := σ) (i_0 := (if ((w32 i_4) < (w32 whole_0)) then (from_0 + i_4) else ((from_0 + i_4) + 1))) hσ) ?_
      rintro x_15 - ⟨hsg, g9⟩
      try simp (disch := omega) only [w32_of, w64_of, w8_of] at hsg
      try simp (disch := omega) only [w32_of, w64_of, w8_of] at g9
      have hdw : i_4 < whole_0 → 48 ≤ sgA σ (from_0 + i_4) ∧ sgA σ (from_0 + i_4) ≤ 57 := fun q => w3 i_4 (by omega) q
      have hdf : ¬ i_4 < whole_0 → 48 ≤ sgA σ ((from_0 + i_4) + 1) ∧ sgA σ ((from_0 + i_4) + 1) ≤ 57 := fun q => by have := w4 (i_4 - whole_0) (by omega) (by omega); rw [show from_0 + whole_0 + 1 + (i_4 - whole_0) = from_0 + i_4 + 1 by omega] at this; exact this
      have hdx : 48 ≤ x_15 ∧ x_15 ≤ 57 := by rw [hsg]; split <;> first | exact hdw (by assumption) | exact hdf (by assumption) | omega
      refine wp_bd (P := fun rr_ => (0 ≤ rr_.1 ∧ rr_.1 ≤ 10000000000) ∧ (-128 ≤ rr_.2.1 ∧ rr_.2.1 ≤ 255)) ?_ ?_
      · have c11 := w32_rng (whole_0 + power_0)
        refine wp_if (fun c10 => ?_) (fun c10 => ?_)
        · try simp (disch := omega) only [w32_of, w64_of, w8_of, decide_eq_true_eq, decide_eq_false_iff_not, Bool.not_eq_true] at c10
          have hw48 := w32_of (x := x_15 - 48) (by omega) (by omega)
          have hmn := q_mnl_bd (value_1 * 10 + (x_15 - 48)) 10000000000
          rw [w64_of (x := value_1 * 10 + (x_15 - 48)) (by omega) (by omega), w64_of (x := 10000000000) (by omega) (by omega)] at hmn
          have hmo : q_mnl ((value_1 * 10) + (w32 (x_15 - 48))) 10000000000 = q_mnl (value_1 * 10 + (x_15 - 48)) 10000000000 := by rw [hw48]
          exact wp_some ⟨(by (try dsimp only) <;> first | assumption | omega | ((try simp (disch := omega) only [w32_of, w64_of, w8_of]) <;> first | assumption | omega | (split <;> omega) | (refine And.intro ?_ ?_ <;> split <;> omega)) | omega), (by (try dsimp only) <;> first | assumption | omega | ((try simp (disch := omega) only [w32_of, w64_of, w8_of]) <;> first | assumption | omega | (split <;> omega) | (refine And.intro ?_ ?_ <;> split <;> omega)) | omega)⟩
        · try simp (disch := omega) only [w32_of, w64_of, w8_of, decide_eq_true_eq, decide_eq_false_iff_not, Bool.not_eq_true] at c10
          refine wp_bd (P := fun rr_ => ((-128) ≤ rr_.1 ∧ rr_.1 ≤ 255) ∧ (-128 ≤ rr_.1 ∧ rr_.1 ≤ 255)) ?_ ?_
          · refine wp_if (fun c12 => ?_) (fun c12 => ?_)
            · try simp (disch := omega) only [w32_of, w64_of, w8_of, decide_eq_true_eq, decide_eq_false_iff_not, Bool.not_eq_true] at c12
              exact wp_some ⟨(by (try dsimp only) <;> first | assumption | omega | ((try simp (disch := omega) only [w32_of, w64_of, w8_of]) <;> first | assumption | omega | (split <;> omega) | (refine And.intro ?_ ?_ <;> split <;> omega)) | omega), (by (try dsimp only) <;> first | assumption | omega | ((try simp (disch := omega) only [w32_of, w64_of, w8_of]) <;> first | assumption | omega | (split <;> omega) | (refine And.intro ?_ ?_ <;> split <;> omega)) | omega)⟩
            · try simp (disch := omega) only [w32_of, w64_of, w8_of, decide_eq_true_eq, decide_eq_false_iff_not, Bool.not_eq_true] at c12
              refine wp_bd (P := fun rr_ => True) ?_ ?_
              · have c14 := w32_rng (x_15 - 48)
                refine wp_if (fun c13 => ?_) (fun c13 => ?_)
                · try simp (disch := omega) only [w32_of, w64_of, w8_of, decide_eq_true_eq, decide_eq_false_iff_not, Bool.not_eq_true] at c13
                  exact wp_some trivial
                · try simp (disch := omega) only [w32_of, w64_of, w8_of, decide_eq_true_eq, decide_eq_false_iff_not, Bool.not_eq_true] at c13
                  exact wp_some trivial
              rintro more_35 _ -
              exact wp_some ⟨(by (try dsimp only) <;> first | assumption | omega | ((try simp (disch := omega) only [w32_of, w64_of, w8_of]) <;> first | assumption | omega | (split <;> omega) | (refine And.intro ?_ ?_ <;> split <;> omega)) | omega), (by (try dsimp only) <;> first | assumption | omega | ((try simp (disch := omega) only [w32_of, w64_of, w8_of]) <;> first | assumption | omega | (split <;> omega) | (refine And.intro ?_ ?_ <;> split <;> omega)) | omega)⟩
          rintro ⟨next_38, more_39⟩ _ y17
          try dsimp only at y17 ⊢
          obtain ⟨g15, g16⟩ := y17
          exact wp_some ⟨(by (try dsimp only) <;> first | assumption | omega | ((try simp (disch := omega) only [w32_of, w64_of, w8_of]) <;> first | assumption | omega | (split <;> omega) | (refine And.intro ?_ ?_ <;> split <;> omega)) | omega), (by (try dsimp only) <;> first | assumption | omega | ((try simp (disch := omega) only [w32_of, w64_of, w8_of]) <;> first | assumption | omega | (split <;> omega) | (refine And.intro ?_ ?_ <;> split <;> omega)) | omega)⟩
      rintro ⟨value_42, next_43, more_44⟩ _ y20
      try dsimp only at y20 ⊢
      obtain ⟨g18, g19⟩ := y20
      exact wp_some (x_inl ⟨⟨(by (try dsimp only) <;> first | assumption | omega | ((try simp (disch := omega) only [w32_of, w64_of, w8_of]) <;> first | assumption | omega | (split <;> omega) | (refine And.intro ?_ ?_ <;> split <;> omega)) | omega), (by (try dsimp only) <;> first | assumption | omega | ((try simp (disch := omega) only [w32_of, w64_of, w8_of]) <;> first | assumption | omega | (split <;> omega) | (refine And.intro ?_ ?_ <;> split <;> omega)) | omega), (by (try dsimp only) <;> first | assumption | omega | ((try simp (disch := omega) only [w32_of, w64_of, w8_of]) <;> first | assumption | omega | (split <;> omega) | (refine And.intro ?_ ?_ <;> split <;> omega)) | omega)⟩, (by (try dsimp only) <;> first | assumption | omega | ((try simp (disch := omega) only [w32_of, w64_of, w8_of]) <;> first | assumption | omega | (split <;> omega) | (refine And.intro ?_ ?_ <;> split <;> omega)) | omega)⟩)
    · try simp (disch := omega) only [w32_of, w64_of, w8_of, decide_eq_true_eq, decide_eq_false_iff_not, Bool.not_eq_true] at c5
      exact wp_some (x_inr ⟨(by (try dsimp only) <;> first | assumption | omega | ((try simp (disch := omega) only [w32_of, w64_of, w8_of]) <;> first | assumption | omega | (split <;> omega) | (refine And.intro ?_ ?_ <;> split <;> omega)) | omega), (by (try dsimp only) <;> first | assumption | omega | ((try simp (disch := omega) only [w32_of, w64_of, w8_of]) <;> first | assumption | omega | (split <;> omega) | (refine And.intro ?_ ?_ <;> split <;> omega)) | omega)⟩)
  rintro ⟨value_49, next_50, more_51, i_52⟩ _ y23
  try dsimp only at y23 ⊢
  obtain ⟨g21, g22⟩ := y23
  refine wp_bd (P := fun rr_ => (0 ≤ rr_.1 ∧ rr_.1 ≤ 10000000000)) ?_ ?_
  · refine wp_whl (fun ss_ => (0 ≤ ss_.1 ∧ ss_.1 ≤ 10000000000) ∧ (0 ≤ ss_.2 ∧ ss_.2 ≤ 2147483647)) (fun ss_ => (2147483648 - ss_.2).toNat) ⟨(by (try dsimp only) <;> first | assumption | omega | ((try simp (disch := omega) only [w32_of, w64_of, w8_of]) <;> first | assumption | omega | (split <;> omega) | (refine And.intro ?_ ?_ <;> split <;> omega)) | omega), (by (try dsimp only) <;> first | assumption | omega | ((try simp (disch := omega) only [w32_of, w64_of, w8_of]) <;> first | assumption | omega | (split <;> omega) | (refine And.intro ?_ ?_ <;> split <;> omega)) | omega)⟩ ?_
    rintro ⟨value_53, i_54⟩ y26
    try dsimp only at y26 ⊢
    obtain ⟨g24, g25⟩ := y26
    have c28 := w32_rng i_54
    have c29 := w32_rng (whole_0 + power_0)
    have c30 := w64_rng value_53
    refine wp_if (fun c27 => ?_) (fun c27 => ?_)
    · try simp (disch := omega) only [w32_of, w64_of, w8_of, decide_eq_true_eq, decide_eq_false_iff_not, Bool.not_eq_true] at c27
      have hmn := q_mnl_bd (value_53 * 10) 10000000000
      rw [w64_of (x := value_53 * 10) (by omega) (by omega), w64_of (x := 10000000000) (by omega) (by omega)] at hmn
      exact wp_some (x_inl ⟨⟨(by (try dsimp only) <;> first | assumption | omega | ((try simp (disch := omega) only [w32_of, w64_of, w8_of]) <;> first | assumption | omega | (split <;> omega) | (refine And.intro ?_ ?_ <;> split <;> omega)) | omega), (by (try dsimp only) <;> first | assumption | omega | ((try simp (disch := omega) only [w32_of, w64_of, w8_of]) <;> first | assumption | omega | (split <;> omega) | (refine And.intro ?_ ?_ <;> split <;> omega)) | omega)⟩, (by (try dsimp only) <;> first | assumption | omega | ((try simp (disch := omega) only [w32_of, w64_of, w8_of]) <;> first | assumption | omega | (split <;> omega) | (refine And.intro ?_ ?_ <;> split <;> omega)) | omega)⟩)
    · try simp (disch := omega) only [w32_of, w64_of, w8_of, decide_eq_true_eq, decide_eq_false_iff_not, Bool.not_eq_true] at c27
      exact wp_some (x_inr (by (try dsimp only) <;> first | assumption | omega | ((try simp (disch := omega) only [w32_of, w64_of, w8_of]) <;> first | assumption | omega | (split <;> omega) | (refine And.intro ?_ ?_ <;> split <;> omega)) | omega))
  rintro ⟨value_73, i_74⟩ _ y32
  try dsimp only at y32 ⊢
  have g31 := y32
  have c33 := w32_rng next_50
  have c34 := q_lan_bd value_73 (m := 1) (by decide) (by decide)
  try simp (disch := omega) only [w32_of, w64_of, w8_of] at c34
  have c35 := w64_rng (q_lan value_73 1)
  refine wp_lt (fun x_76 e_x_76 => ?_)
  try simp (disch := omega) only [w32_of, w64_of, w8_of] at e_x_76
  exact wp_some (by (try dsimp only) <;> first | assumption | omega | ((try simp (disch := omega) only [w32_of, w64_of, w8_of]) <;> first | assumption | omega | (split <;> omega) | (refine And.intro ?_ ?_ <;> split <;> omega)) | omega)
theorem s_W_readNumber {σ : SG} (hσ : II σ) : wp_ (fW_readNumber σ) (fun zz_ => II zz_.2 ∧ FC [kW_at, kW_number, kW_place, kW_wrong] [] σ zz_.2 ∧ ((zz_.1 = true) → (-1000000000 ≤ zz_.2 kW_number 0 ∧ zz_.2 kW_number 0 ≤ 1000000000)) ∧ ((zz_.1 = true) → (σ kW_at 0 < zz_.2 kW_at 0 ∧ zz_.2 kW_at 0 ≤ σ kW_length 0))) := by
  unfold fW_readNumber
  have hln := ii_kW_length hσ 0
  have hat0 := ii_kW_at hσ 0
  have hdgt := ii_kW_digits hσ 0
  refine wp_bd (s_W_skipBlanks (σ := σ) hσ) ?_
  rintro σ_2 - ⟨hσ_2, flσ_2, hsk, g1⟩
  have frσ_2 : FC [kW_at, kW_number, kW_place, kW_wrong] [] σ σ_2 := FC_le flσ_2 (by first | decide | (rcases hE with rfl | rfl | rfl <;> decide)) (by simp)
  have c2 := ii_kW_at hσ 0
  have c3 := ii_kW_at hσ_2 0
  try simp (disch := omega) only [w32_of, w64_of, w8_of] at hsk
  have c4 := ii_kW_length hσ 0
  try simp (disch := omega) only [w32_of, w64_of, w8_of] at g1
  refine wp_bd (v_signAt (σ := σ_2) (i_0 := (σ_2 kW_at 0)) hσ_2) ?_
  rintro x_4 - ⟨s4, t4⟩
  try simp (disch := omega) only [w32_of, w64_of, w8_of] at s4
  try simp (disch := omega) only [w32_of, w64_of, w8_of] at t4
  have hat2 := ii_kW_at hσ_2 0
  have hl2 : σ_2 kW_length 0 = σ kW_length 0 := FC_at frσ_2 (c := kW_length) (by decide) 0
  have i4 : 0 ≤ x_4 → σ_2 kW_at 0 < σ_2 kW_length 0 := fun q => by rw [s4] at q; have := sgA_in hσ_2 q; rw [w32_of (by omega) (by omega)] at this; exact this.2
  refine wp_if (fun c5 => ?_) (fun c5 => ?_)
  · try simp (disch := omega) only [w32_of, w64_of, w8_of, decide_eq_true_eq, decide_eq_false_iff_not, Bool.not_eq_true, fW_beginsNumber] at c5
    have hb4 : 0 ≤ x_4 := by omega
    have i4b := i4 hb4
    refine wp_lt (fun x_7 e_x_7 => ?_)
    try simp (disch := omega) only [w32_of, w64_of, w8_of] at e_x_7
    have h7 : σ_2 kW_at 0 ≤ x_7 ∧ x_7 ≤ σ_2 kW_length 0 := by rw [e_x_7]; split <;> omega
    have c6 := ii_kW_length hσ_2 0
    have c7 := FC_at flσ_2 (c := kW_length) (by first | decide | (rcases hE with rfl | rfl | rfl <;> decide)) 0
    refine wp_bd (s_W_digitsFrom (σ := σ_2) (from_0 := x_7) hσ_2 (by (try dsimp only) <;> first | assumption | omega | ((try simp (disch := omega) only [w32_of, w64_of, w8_of]) <;> first | assumption | omega | (split <;> omega) | (refine And.intro ?_ ?_ <;> split <;> omega)) | omega)) ?_
    rintro x_9 - ⟨n9, l9, d9⟩
    try simp (disch := omega) only [w32_of, w64_of, w8_of] at n9
    try simp (disch := omega) only [w32_of, w64_of, w8_of] at l9
    try simp (disch := omega) only [w32_of, w64_of, w8_of] at d9
    refine wp_bd (P := fun rr_ => (x_7 + x_9 ≤ rr_.1) ∧ (rr_.1 ≤ σ_2 kW_length 0) ∧ (0 ≤ rr_.2) ∧ (x_9 + rr_.2 ≤ rr_.1 - x_7) ∧ (DGs σ_2 (x_7 + x_9 + 1) rr_.2)) ?_ ?_
    · refine wp_bd (v_signAt (σ := σ_2) (i_0 := (x_7 + x_9)) hσ_2) ?_
      rintro x_15 - ⟨s15, t15⟩
      try simp (disch := omega) only [w32_of, w64_of, w8_of] at s15
      try simp (disch := omega) only [w32_of, w64_of, w8_of] at t15
      have i15 : 0 ≤ x_15 → x_7 + x_9 < σ_2 kW_length 0 := fun q => by rw [s15] at q; have := sgA_in hσ_2 q; rw [w32_of (by omega) (by omega)] at this; exact this.2
      have c9 := w32_rng x_15
      refine wp_if (fun c8 => ?_) (fun c8 => ?_)
      · try simp (disch := omega) only [w32_of, w64_of, w8_of, decide_eq_true_eq, decide_eq_false_iff_not, Bool.not_eq_true] at c8
        refine wp_bd (s_W_digitsFrom (σ := σ_2) (from_0 := ((x_7 + x_9) + 1)) hσ_2 (by (try dsimp only) <;> first | assumption | omega | ((try simp (disch := omega) only [w32_of, w64_of, w8_of]) <;> first | assumption | omega | (split <;> omega) | (refine And.intro ?_ ?_ <;> split <;> omega)) | omega)) ?_
        rintro x_18 - ⟨n18, l18, d18⟩
        try simp (disch := omega) only [w32_of, w64_of, w8_of] at n18
        try simp (disch := omega) only [w32_of, w64_of, w8_of] at l18
        try simp (disch := omega) only [w32_of, w64_of, w8_of] at d18
        exact wp_some ⟨(by (try dsimp only) <;> first | assumption | omega | ((try simp (disch := omega) only [w32_of, w64_of, w8_of]) <;> first | assumption | omega | (split <;> omega) | (refine And.intro ?_ ?_ <;> split <;> omega)) | omega), (by (try dsimp only) <;> first | assumption | omega | ((try simp (disch := omega) only [w32_of, w64_of, w8_of]) <;> first | assumption | omega | (split <;> omega) | (refine And.intro ?_ ?_ <;> split <;> omega)) | omega), (by (try dsimp only) <;> first | assumption | omega | ((try simp (disch := omega) only [w32_of, w64_of, w8_of]) <;> first | assumption | omega | (split <;> omega) | (refine And.intro ?_ ?_ <;> split <;> omega)) | omega), (by (try dsimp only) <;> first | assumption | omega | ((try simp (disch := omega) only [w32_of, w64_of, w8_of]) <;> first | assumption | omega | (split <;> omega) | (refine And.intro ?_ ?_ <;> split <;> omega)) | omega), (by (try dsimp only) <;> (first | exact d18 | (intro k a b; omega)))⟩
      · try simp (disch := omega) only [w32_of, w64_of, w8_of, decide_eq_true_eq, decide_eq_false_iff_not, Bool.not_eq_true] at c8
        exact wp_some ⟨(by (try dsimp only) <;> first | assumption | omega | ((try simp (disch := omega) only [w32_of, w64_of, w8_of]) <;> first | assumption | omega | (split <;> omega) | (refine And.intro ?_ ?_ <;> split <;> omega)) | omega), (by (try dsimp only) <;> first | assumption | omega | ((try simp (disch := omega) only [w32_of, w64_of, w8_of]) <;> first | assumption | omega | (split <;> omega) | (refine And.intro ?_ ?_ <;> split <;> omega)) | omega), (by (try dsimp only) <;> first | assumption | omega | ((try simp (disch := omega) only [w32_of, w64_of, w8_of]) <;> first | assumption | omega | (split <;> omega) | (refine And.intro ?_ ?_ <;> split <;> omega)) | omega), (by (try dsimp only) <;> first | assumption | omega | ((try simp (disch := omega) only [w32_of, w64_of, w8_of]) <;> first | assumption | omega | (split <;> omega) | (refine And.intro ?_ ?_ <;> split <;> omega)) | omega), (by (try dsimp only) <;> (first | exact d18 | (intro k a b; omega)))⟩
    rintro ⟨i_21, fraction_22⟩ _ y14
    try dsimp only at y14 ⊢
    obtain ⟨g10, g11, g12, g13, dfr⟩ := y14
    refine wp_bd (P := fun rr_ => (i_21 ≤ rr_.1) ∧ (rr_.1 ≤ σ_2 kW_length 0) ∧ ((rr_.2.1 = true) → (0 < x_9 + fraction_22)) ∧ (-2147483648 ≤ rr_.2.2 ∧ rr_.2.2 ≤ 2147483648)) ?_ ?_
    · refine wp_bd (P := fun rr_ => ((rr_ = true) → (i_21 < σ_2 kW_length 0 ∧ 0 < x_9 + fraction_22))) ?_ ?_
      · have c16 := w32_rng (x_9 + fraction_22)
        refine wp_if (fun c15 => ?_) (fun c15 => ?_)
        · try simp (disch := omega) only [w32_of, w64_of, w8_of, decide_eq_true_eq, decide_eq_false_iff_not, Bool.not_eq_true] at c15
          refine wp_bd (v_signAt (σ := σ_2) (i_0 := i_21) hσ_2) ?_
          rintro x_71 - ⟨s71, t71⟩
          try simp (disch := omega) only [w32_of, w64_of, w8_of] at s71
          try simp (disch := omega) only [w32_of, w64_of, w8_of] at t71
          have c18 := w32_rng x_71
          refine wp_if (fun c17 => ?_) (fun c17 => ?_)
          · try simp (disch := omega) only [w32_of, w64_of, w8_of, decide_eq_true_eq, decide_eq_false_iff_not, Bool.not_eq_true] at c17
            exact wp_some (by (try dsimp only) <;> (intro q9; first | exact absurd q9 (by decide) | (refine ⟨?_, by omega⟩; have q7 := sgA_in (i := i_21) hσ_2 (by rw [← s71]; omega); rw [w32_of (by omega) (by omega)] at q7; exact q7.2)))
          · try simp (disch := omega) only [w32_of, w64_of, w8_of, decide_eq_true_eq, decide_eq_false_iff_not, Bool.not_eq_true] at c17
            refine wp_bd (v_signAt (σ := σ_2) (i_0 := i_21) hσ_2) ?_
            rintro x_75 - ⟨s75, t75⟩
            try simp (disch := omega) only [w32_of, w64_of, w8_of] at s75
            try simp (disch := omega) only [w32_of, w64_of, w8_of] at t75
            have c20 := w32_rng x_75
            refine wp_if (fun c19 => ?_) (fun c19 => ?_)
            · try simp (disch := omega) only [w32_of, w64_of, w8_of, decide_eq_true_eq, decide_eq_false_iff_not, Bool.not_eq_true] at c19
              exact wp_some (by (try dsimp only) <;> (intro q9; first | exact absurd q9 (by decide) | (refine ⟨?_, by omega⟩; have q7 := sgA_in (i := i_21) hσ_2 (by rw [← s71]; omega); rw [w32_of (by omega) (by omega)] at q7; exact q7.2)))
            · try simp (disch := omega) only [w32_of, w64_of, w8_of, decide_eq_true_eq, decide_eq_false_iff_not, Bool.not_eq_true] at c19
              exact wp_some (fun q => (by cases q))
        · try simp (disch := omega) only [w32_of, w64_of, w8_of, decide_eq_true_eq, decide_eq_false_iff_not, Bool.not_eq_true] at c15
          exact wp_some (fun q => (by cases q))
      rintro b_80 _ h80
      refine wp_if (fun c21 => ?_) (fun c21 => ?_)
      · have k22 := h80 c21
        try simp (disch := omega) only [w32_of, w64_of, w8_of] at k22
        try simp (disch := omega) only [w32_of, w64_of, w8_of, decide_eq_true_eq, decide_eq_false_iff_not, Bool.not_eq_true] at c21
        have h80b := h80 (by assumption)
        refine wp_bd (P := fun rr_ => (i_21 + 1 ≤ rr_) ∧ (rr_ ≤ σ_2 kW_length 0)) ?_ ?_
        · refine wp_bd (v_signAt (σ := σ_2) (i_0 := (i_21 + 1)) hσ_2) ?_
          rintro x_82 - ⟨s82, t82⟩
          try simp (disch := omega) only [w32_of, w64_of, w8_of] at s82
          try simp (disch := omega) only [w32_of, w64_of, w8_of] at t82
          have i82 : 0 ≤ x_82 → i_21 + 1 < σ_2 kW_length 0 := fun q => by rw [s82] at q; have := sgA_in hσ_2 q; rw [w32_of (by omega) (by omega)] at this; exact this.2
          refine wp_if (fun c23 => ?_) (fun c23 => ?_)
          · try simp (disch := omega) only [w32_of, w64_of, w8_of, decide_eq_true_eq, decide_eq_false_iff_not, Bool.not_eq_true, fW_isSign] at c23
            exact wp_some ⟨(by (try dsimp only) <;> first | assumption | omega | ((try simp (disch := omega) only [w32_of, w64_of, w8_of]) <;> first | assumption | omega | (split <;> omega) | (refine And.intro ?_ ?_ <;> split <;> omega)) | omega), (by (try dsimp only) <;> first | assumption | omega | ((try simp (disch := omega) only [w32_of, w64_of, w8_of]) <;> first | assumption | omega | (split <;> omega) | (refine And.intro ?_ ?_ <;> split <;> omega)) | omega)⟩
          · try simp (disch := omega) only [w32_of, w64_of, w8_of, decide_eq_true_eq, decide_eq_false_iff_not, Bool.not_eq_true, fW_isSign] at c23
            exact wp_some ⟨(by (try dsimp only) <;> first | assumption | omega | ((try simp (disch := omega) only [w32_of, w64_of, w8_of]) <;> first | assumption | omega | (split <;> omega) | (refine And.intro ?_ ?_ <;> split <;> omega)) | omega), (by (try dsimp only) <;> first | assumption | omega | ((try simp (disch := omega) only [w32_of, w64_of, w8_of]) <;> first | assumption | omega | (split <;> omega) | (refine And.intro ?_ ?_ <;> split <;> omega)) | omega)⟩
        rintro x_86 _ ⟨g24, g25⟩
        refine wp_bd (s_W_digitsFrom (σ := σ_2) (from_0 := x_86) hσ_2 (by (try dsimp only) <;> first | assumption | omega | ((try simp (disch := omega) only [w32_of, w64_of, w8_of]) <;> first | assumption | omega | (split <;> omega) | (refine And.intro ?_ ?_ <;> split <;> omega)) | omega)) ?_
        rintro x_88 - ⟨n88, l88, d88⟩
        try simp (disch := omega) only [w32_of, w64_of, w8_of] at n88
        try simp (disch := omega) only [w32_of, w64_of, w8_of] at l88
        try simp (disch := omega) only [w32_of, w64_of, w8_of] at d88
        refine wp_bd (P := fun rr_ => (-2147483648 ≤ rr_ ∧ rr_ ≤ 2147483648)) ?_ ?_
        · refine wp_bd (v_signAt (σ := σ_2) (i_0 := (i_21 + 1)) hσ_2) ?_
          rintro x_91 - ⟨hsg, g26⟩
          try simp (disch := omega) only [w32_of, w64_of, w8_of] at hsg
          try simp (disch := omega) only [w32_of, w64_of, w8_of] at g26
          have c28 := w32_rng x_91
          refine wp_if (fun c27 => ?_) (fun c27 => ?_)
          · try simp (disch := omega) only [w32_of, w64_of, w8_of, decide_eq_true_eq, decide_eq_false_iff_not, Bool.not_eq_true] at c27
            refine wp_bd (s_W_exponentFrom (σ := σ_2) (from_0 := x_86) (size_0 := x_88) hσ_2 (by (try dsimp only) <;> first | assumption | omega | ((try simp (disch := omega) only [w32_of, w64_of, w8_of]) <;> first | assumption | omega | (split <;> omega) | (refine And.intro ?_ ?_ <;> split <;> omega)) | omega)) ?_
            rintro x_94 - hex
            try simp (disch := omega) only [w32_of, w64_of, w8_of] at hex
            exact wp_some (by (try dsimp only) <;> first | assumption | omega | ((try simp (disch := omega) only [w32_of, w64_of, w8_of]) <;> first | assumption | omega | (split <;> omega) | (refine And.intro ?_ ?_ <;> split <;> omega)) | omega)
          · try simp (disch := omega) only [w32_of, w64_of, w8_of, decide_eq_true_eq, decide_eq_false_iff_not, Bool.not_eq_true] at c27
            refine wp_bd (s_W_exponentFrom (σ := σ_2) (from_0 := x_86) (size_0 := x_88) hσ_2 (by (try dsimp only) <;> first | assumption | omega | ((try simp (disch := omega) only [w32_of, w64_of, w8_of]) <;> first | assumption | omega | (split <;> omega) | (refine And.intro ?_ ?_ <;> split <;> omega)) | omega)) ?_
            rintro x_97 - hex
            try simp (disch := omega) only [w32_of, w64_of, w8_of] at hex
            exact wp_some (by (try dsimp only) <;> first | assumption | omega | ((try simp (disch := omega) only [w32_of, w64_of, w8_of]) <;> first | assumption | omega | (split <;> omega) | (refine And.intro ?_ ?_ <;> split <;> omega)) | omega)
        rintro x_99 _ g29
        exact wp_some ⟨(by (try dsimp only) <;> first | assumption | omega | ((try simp (disch := omega) only [w32_of, w64_of, w8_of]) <;> first | assumption | omega | (split <;> omega) | (refine And.intro ?_ ?_ <;> split <;> omega)) | omega), (by (try dsimp only) <;> first | assumption | omega | ((try simp (disch := omega) only [w32_of, w64_of, w8_of]) <;> first | assumption | omega | (split <;> omega) | (refine And.intro ?_ ?_ <;> split <;> omega)) | omega), (by (try dsimp only) <;> (intro q9; first | omega | (have q8 := of_decide_eq_true q9; rw [w32_of (by omega) (by omega)] at q8; omega))), (by (try dsimp only) <;> first | assumption | omega | ((try simp (disch := omega) only [w32_of, w64_of, w8_of]) <;> first | assumption | omega | (split <;> omega) | (refine And.intro ?_ ?_ <;> split <;> omega)) | omega)⟩
      · try simp (disch := omega) only [w32_of, w64_of, w8_of, decide_eq_true_eq, decide_eq_false_iff_not, Bool.not_eq_true] at c21
        exact wp_some ⟨(by (try dsimp only) <;> first | assumption | omega | ((try simp (disch := omega) only [w32_of, w64_of, w8_of]) <;> first | assumption | omega | (split <;> omega) | (refine And.intro ?_ ?_ <;> split <;> omega)) | omega), (by (try dsimp only) <;> first | assumption | omega | ((try simp (disch := omega) only [w32_of, w64_of, w8_of]) <;> first | assumption | omega | (split <;> omega) | (refine And.intro ?_ ?_ <;> split <;> omega)) | omega), (by (try dsimp only) <;> (intro q9; first | omega | (have q8 := of_decide_eq_true q9; rw [w32_of (by omega) (by omega)] at q8; omega))), (by (try dsimp only) <;> first | assumption | omega | ((try simp (disch := omega) only [w32_of, w64_of, w8_of]) <;> first | assumption | omega | (split <;> omega) | (refine And.intro ?_ ?_ <;> split <;> omega)) | omega)⟩
    rintro ⟨i_116, good_117, exponent_118⟩ _ y34
    try dsimp only at y34 ⊢
    obtain ⟨g31, g32, hgo, g33⟩ := y34
    refine wp_bd (v_signAt (σ := σ_2) (i_0 := i_116) hσ_2) ?_
    rintro x_120 - ⟨hsg, g35⟩
    try simp (disch := omega) only [w32_of, w64_of, w8_of] at hsg
    try simp (disch := omega) only [w32_of, w64_of, w8_of] at g35
    refine wp_if (fun c36 => ?_) (fun c36 => ?_)
    · have hcg := c36
      try simp (disch := omega) only [w32_of, w64_of, w8_of, decide_eq_true_eq, decide_eq_false_iff_not, Bool.not_eq_true, fW_beginsNumber, fW_isLetter] at c36
      refine wp_bd (v_failW (σ := σ_2) (code_0 := 4) hσ_2 (by (try dsimp only) <;> first | assumption | omega | ((try simp (disch := omega) only [w32_of, w64_of, w8_of]) <;> first | assumption | omega | (split <;> omega) | (refine And.intro ?_ ?_ <;> split <;> omega)) | omega)) ?_
      rintro ⟨x_123, σ_122⟩ - y37
      try dsimp only at y37 ⊢
      obtain ⟨hσ_122, flσ_122, hfl⟩ := y37
      have frσ_122 : FC [kW_at, kW_number, kW_place, kW_wrong] [] σ σ_122 := FC_tr frσ_2 flσ_122 (by first | decide | (rcases hE with rfl | rfl | rfl <;> decide)) (by first | decide | (rcases hE with rfl | rfl | rfl <;> decide)) (by simp) (by simp)
      try simp (disch := omega) only [w32_of, w64_of, w8_of] at hfl
      have c38 := ii_kW_number hσ_122 0
      have c39 := FC_at flσ_122 (c := kW_number) (by first | decide | (rcases hE with rfl | rfl | rfl <;> decide)) 0
      have c40 := ii_kW_number hσ_2 0
      have c41 := FC_at flσ_2 (c := kW_number) (by first | decide | (rcases hE with rfl | rfl | rfl <;> decide)) 0
      have c42 := ii_kW_number hσ 0
      have c43 := ii_kW_at hσ_122 0
      have c44 := FC_at flσ_122 (c := kW_at) (by first | decide | (rcases hE with rfl | rfl | rfl <;> decide)) 0
      exact wp_some ⟨hσ_122, frσ_122, (fun q => absurd (q.symm.trans hfl) (by decide)), (fun q => absurd (q.symm.trans hfl) (by decide))⟩
    · have hcg := c36
      try simp (disch := omega) only [w32_of, w64_of, w8_of, decide_eq_true_eq, decide_eq_false_iff_not, Bool.not_eq_true, fW_beginsNumber, fW_isLetter] at c36
      have c45 := ii_kW_digits hσ_2 0
      have c46 := FC_at flσ_2 (c := kW_digits) (by first | decide | (rcases hE with rfl | rfl | rfl <;> decide)) 0
      have c47 := ii_kW_digits hσ 0
      refine wp_bd (s_W_roundedFrom (σ := σ_2) (from_0 := x_7) (whole_0 := x_9) (fraction_0 := fraction_22) (power_0 := (exponent_118 + (σ_2 kW_digits 0))) hσ_2 (by (try dsimp only) <;> first | assumption | omega | ((try simp (disch := omega) only [w32_of, w64_of, w8_of]) <;> first | assumption | omega | (split <;> omega) | (refine And.intro ?_ ?_ <;> split <;> omega)) | omega) (by (try dsimp only) <;> first | assumption | omega | ((try simp (disch := omega) only [w32_of, w64_of, w8_of]) <;> first | assumption | omega | (split <;> omega) | (refine And.intro ?_ ?_ <;> split <;> omega)) | omega) (by (try dsimp only) <;> first | assumption | omega | ((try simp (disch := omega) only [w32_of, w64_of, w8_of]) <;> first | assumption | omega | (split <;> omega) | (refine And.intro ?_ ?_ <;> split <;> omega)) | omega) (by (try dsimp only) <;> first | assumption | omega | ((try simp (disch := omega) only [w32_of, w64_of, w8_of]) <;> first | assumption | omega | (split <;> omega) | (refine And.intro ?_ ?_ <;> split <;> omega)) | omega) (by (try dsimp only) <;> first | assumption | omega | ((try simp (disch := omega) only [w32_of, w64_of, w8_of]) <;> first | assumption | omega | (split <;> omega) | (refine And.intro ?_ ?_ <;> split <;> omega)) | omega)) ?_
      rintro x_125 - hrd
      try simp (disch := omega) only [w32_of, w64_of, w8_of] at hrd
      have c49 := w64_rng x_125
      refine wp_if (fun c48 => ?_) (fun c48 => ?_)
      · try simp (disch := omega) only [w32_of, w64_of, w8_of, decide_eq_true_eq, decide_eq_false_iff_not, Bool.not_eq_true] at c48
        refine wp_bd (v_failW (σ := σ_2) (code_0 := 5) hσ_2 (by (try dsimp only) <;> first | assumption | omega | ((try simp (disch := omega) only [w32_of, w64_of, w8_of]) <;> first | assumption | omega | (split <;> omega) | (refine And.intro ?_ ?_ <;> split <;> omega)) | omega)) ?_
        rintro ⟨x_129, σ_128⟩ - y50
        try dsimp only at y50 ⊢
        obtain ⟨hσ_128, flσ_128, hfl⟩ := y50
        have frσ_128 : FC [kW_at, kW_number, kW_place, kW_wrong] [] σ σ_128 := FC_tr frσ_2 flσ_128 (by first | decide | (rcases hE with rfl | rfl | rfl <;> decide)) (by first | decide | (rcases hE with rfl | rfl | rfl <;> decide)) (by simp) (by simp)
        try simp (disch := omega) only [w32_of, w64_of, w8_of] at hfl
        have c51 := ii_kW_number hσ_128 0
        have c52 := FC_at flσ_128 (c := kW_number) (by first | decide | (rcases hE with rfl | rfl | rfl <;> decide)) 0
        have c53 := ii_kW_number hσ_2 0
        have c54 := FC_at flσ_2 (c := kW_number) (by first | decide | (rcases hE with rfl | rfl | rfl <;> decide)) 0
        have c55 := ii_kW_number hσ 0
        have c56 := ii_kW_at hσ_128 0
        have c57 := FC_at flσ_128 (c := kW_at) (by first | decide | (rcases hE with rfl | rfl | rfl <;> decide)) 0
        exact wp_some ⟨hσ_128, frσ_128, (fun q => absurd (q.symm.trans hfl) (by decide)), (fun q => absurd (q.symm.trans hfl) (by decide))⟩
      · try simp (disch := omega) only [w32_of, w64_of, w8_of, decide_eq_true_eq, decide_eq_false_iff_not, Bool.not_eq_true] at c48
        have c58 := w32_rng x_4
        refine wp_wfI hσ_2 b_kW_number (by (try dsimp only) <;> first | assumption | omega | ((try simp (disch := omega) only [w32_of, w64_of, w8_of]) <;> first | assumption | omega | (split <;> omega) | (refine And.intro ?_ ?_ <;> split <;> omega)) | omega) (fun σ_131 hσ_131 eσ_131 => ?_)
        try simp (disch := omega) only [w32_of, w64_of, w8_of] at eσ_131
        have flσ_131 := FC_sg eσ_131 (by first | decide | (rcases hE with rfl | rfl | rfl <;> decide))
        have frσ_131 : FC [kW_at, kW_number, kW_place, kW_wrong] [] σ σ_131 := FC_tr frσ_2 flσ_131 (by first | decide | (rcases hE with rfl | rfl | rfl <;> decide)) (by first | decide | (rcases hE with rfl | rfl | rfl <;> decide)) (by simp) (by simp)
        refine wp_wfI hσ_131 b_kW_at (by (try dsimp only) <;> first | assumption | omega | ((try simp (disch := omega) only [w32_of, w64_of, w8_of]) <;> first | assumption | omega | (split <;> omega) | (refine And.intro ?_ ?_ <;> split <;> omega)) | omega) (fun σ_132 hσ_132 eσ_132 => ?_)
        try simp (disch := omega) only [w32_of, w64_of, w8_of] at eσ_132
        have flσ_132 := FC_sg eσ_132 (by first | decide | (rcases hE with rfl | rfl | rfl <;> decide))
        have frσ_132 : FC [kW_at, kW_number, kW_place, kW_wrong] [] σ σ_132 := FC_tr frσ_131 flσ_132 (by first | decide | (rcases hE with rfl | rfl | rfl <;> decide)) (by first | decide | (rcases hE with rfl | rfl | rfl <;> decide)) (by simp) (by simp)
        have c59 := ii_kW_number hσ_132 0
        have c60 := FC_at flσ_132 (c := kW_number) (by first | decide | (rcases hE with rfl | rfl | rfl <;> decide)) 0
        have c61 := ii_kW_number hσ_131 0
        have c62 := sg_val eσ_131
        have c63 := ii_kW_at hσ_132 0
        have c64 := sg_val eσ_132
        exact wp_some ⟨hσ_132, frσ_132, (by (try dsimp only) <;> (intro q9; first | (rw [hfl] at q9; exact absurd q9 (by decide)) | (rw [hun] at q9; exact absurd q9 (by decide)) | omega | (rw [eσ_132, sg_nc (by decide), eσ_131, sg_at]; split <;> omega))), (by (try dsimp only) <;> (intro q9; first | (rw [hfl] at q9; exact absurd q9 (by decide)) | (rw [hun] at q9; exact absurd q9 (by decide)) | (have q5 : good_117 = true := Decidable.byContradiction fun z => hcg (Or.inl (Or.inl z)); have q6 := hgo q5; omega)))⟩
  · try simp (disch := omega) only [w32_of, w64_of, w8_of, decide_eq_true_eq, decide_eq_false_iff_not, Bool.not_eq_true, fW_beginsNumber] at c5
    refine wp_bd (s_W_unexpected (σ := σ_2) hσ_2) ?_
    rintro ⟨x_149, σ_148⟩ - y65
    try dsimp only at y65 ⊢
    obtain ⟨hσ_148, flσ_148, hun⟩ := y65
    have frσ_148 : FC [kW_at, kW_number, kW_place, kW_wrong] [] σ σ_148 := FC_tr frσ_2 flσ_148 (by first | decide | (rcases hE with rfl | rfl | rfl <;> decide)) (by first | decide | (rcases hE with rfl | rfl | rfl <;> decide)) (by simp) (by simp)
    try simp (disch := omega) only [w32_of, w64_of, w8_of] at hun
    have c66 := ii_kW_number hσ_148 0
    have c67 := FC_at flσ_148 (c := kW_number) (by first | decide | (rcases hE with rfl | rfl | rfl <;> decide)) 0
    have c68 := ii_kW_number hσ_2 0
    have c69 := FC_at flσ_2 (c := kW_number) (by first | decide | (rcases hE with rfl | rfl | rfl <;> decide)) 0
    have c70 := ii_kW_number hσ 0
    have c71 := ii_kW_at hσ_148 0
    have c72 := FC_at flσ_148 (c := kW_at) (by first | decide | (rcases hE with rfl | rfl | rfl <;> decide)) 0
    exact wp_some ⟨hσ_148, frσ_148, (fun q => absurd (q.symm.trans hun) (by decide)), (fun q => absurd (q.symm.trans hun) (by decide))⟩
theorem s_W_readCoordinate {σ : SG} {s_9 : Nat} (hσ : II σ) (hs_s_9 : isS s_9) (hkσ : (σ kW_shape 0).toNat = s_9) : wp_ (fW_readCoordinate σ) (fun zz_ => II zz_.2 ∧ FC [kW_at, kW_number, kW_place, kW_wrong] [s_9] σ zz_.2 ∧ ((zz_.1 = true) → (zz_.2 (kA_points s_9) 0 = σ (kA_points s_9) 0 + 1 ∧ zz_.2 (kA_plans s_9) = σ (kA_plans s_9) ∧ zz_.2 (kA_plan s_9) = σ (kA_plan s_9))) ∧ ((zz_.1 = true) → (σ kW_at 0 < zz_.2 kW_at 0 ∧ zz_.2 kW_at 0 ≤ σ kW_length 0))) := by
  unfold fW_readCoordinate
  have hln := ii_kW_length hσ 0
  have hpt := iiA_points hσ hs_s_9 0
  try rw [hkσ]
  refine wp_bd (s_W_skipBlanks (σ := σ) hσ) ?_
  rintro σ_2 - ⟨hσ_2, flσ_2, hsk, g1⟩
  have frσ_2 : FC [kW_at, kW_number, kW_place, kW_wrong] [s_9] σ σ_2 := FC_le flσ_2 (by first | decide | (rcases hE with rfl | rfl | rfl <;> decide)) (by simp)
  have hkσ_2 : (σ_2 kW_shape 0).toNat = s_9 := by rw [FC_at frσ_2 (c := kW_shape) (by decide)]; exact hkσ
  try rw [hkσ_2]
  have c2 := ii_kW_at hσ 0
  have c3 := ii_kW_at hσ_2 0
  try simp (disch := omega) only [w32_of, w64_of, w8_of] at hsk
  have c4 := ii_kW_length hσ 0
  try simp (disch := omega) only [w32_of, w64_of, w8_of] at g1
  refine wp_ck (by first | assumption | decide | omega) ?_
  refine wp_if (fun c5 => ?_) (fun c5 => ?_)
  · try simp (disch := omega) only [w32_of, w64_of, w8_of, decide_eq_true_eq, decide_eq_false_iff_not, Bool.not_eq_true, fA_hasRoomForPoint] at c5
    refine wp_bd (s_W_readNumber (σ := σ_2) hσ_2) ?_
    rintro ⟨x_7, σ_6⟩ - y6
    try dsimp only at y6 ⊢
    obtain ⟨hσ_6, flσ_6, hrn, hra⟩ := y6
    have frσ_6 : FC [kW_at, kW_number, kW_place, kW_wrong] [s_9] σ σ_6 := FC_tr frσ_2 flσ_6 (by first | decide | (rcases hE with rfl | rfl | rfl <;> decide)) (by first | decide | (rcases hE with rfl | rfl | rfl <;> decide)) (by simp) (by simp)
    have hkσ_6 : (σ_6 kW_shape 0).toNat = s_9 := by rw [FC_at frσ_6 (c := kW_shape) (by decide)]; exact hkσ
    try rw [hkσ_6]
    have c7 := ii_kW_number hσ_6 0
    try simp (disch := omega) only [w32_of, w64_of, w8_of] at hrn
    have c8 := ii_kW_at hσ_6 0
    have c9 := ii_kW_length hσ_2 0
    have c10 := FC_at flσ_2 (c := kW_length) (by first | decide | (rcases hE with rfl | rfl | rfl <;> decide)) 0
    try simp (disch := omega) only [w32_of, w64_of, w8_of] at hra
    refine wp_if (fun c11 => ?_) (fun c11 => ?_)
    · have k12 := hrn c11
      try simp (disch := omega) only [w32_of, w64_of, w8_of] at k12
      have k13 := hra c11
      try simp (disch := omega) only [w32_of, w64_of, w8_of] at k13
      try simp (disch := omega) only [w32_of, w64_of, w8_of, decide_eq_true_eq, decide_eq_false_iff_not, Bool.not_eq_true] at c11
      refine wp_bd (P := fun rr_ => II rr_.2 ∧ FC [kW_at, kW_number, kW_place, kW_wrong] [s_9] σ rr_.2 ∧ ((rr_.1 = true) → (rr_.2 (kA_points s_9) 0 = σ (kA_points s_9) 0 + 1 ∧ rr_.2 (kA_plans s_9) = σ (kA_plans s_9) ∧ rr_.2 (kA_plan s_9) = σ (kA_plan s_9))) ∧ ((rr_.1 = true) → (σ kW_at 0 < rr_.2 kW_at 0 ∧ rr_.2 kW_at 0 ≤ σ kW_length 0))) ?_ ?_
      · refine wp_bd (s_W_readNumber (σ := σ_6) hσ_6) ?_
        rintro ⟨x_11, σ_10⟩ - y14
        try dsimp only at y14 ⊢
        obtain ⟨hσ_10, flσ_10, hrn, hra⟩ := y14
        have frσ_10 : FC [kW_at, kW_number, kW_place, kW_wrong] [s_9] σ σ_10 := FC_tr frσ_6 flσ_10 (by first | decide | (rcases hE with rfl | rfl | rfl <;> decide)) (by first | decide | (rcases hE with rfl | rfl | rfl <;> decide)) (by simp) (by simp)
        have hkσ_10 : (σ_10 kW_shape 0).toNat = s_9 := by rw [FC_at frσ_10 (c := kW_shape) (by decide)]; exact hkσ
        try rw [hkσ_10]
        have c15 := ii_kW_number hσ_10 0
        try simp (disch := omega) only [w32_of, w64_of, w8_of] at hrn
        have c16 := ii_kW_at hσ_10 0
        have c17 := ii_kW_length hσ_6 0
        have c18 := FC_at flσ_6 (c := kW_length) (by first | decide | (rcases hE with rfl | rfl | rfl <;> decide)) 0
        try simp (disch := omega) only [w32_of, w64_of, w8_of] at hra
        refine wp_if (fun c19 => ?_) (fun c19 => ?_)
        · have k20 := hrn c19
          try simp (disch := omega) only [w32_of, w64_of, w8_of] at k20
          have k21 := hra c19
          try simp (disch := omega) only [w32_of, w64_of, w8_of] at k21
          try simp (disch := omega) only [w32_of, w64_of, w8_of, decide_eq_true_eq, decide_eq_false_iff_not, Bool.not_eq_true] at c19
          refine wp_ck (by first | assumption | decide | omega) ?_
          refine wp_bd (v_addPoint (σ := σ_10) (this_0 := s_9) (px_0 := (σ_6 kW_number 0)) (py_0 := (σ_10 kW_number 0)) hσ_10 (by first | assumption | decide | omega) (by (try dsimp only) <;> first | assumption | omega | ((try simp (disch := omega) only [w32_of, w64_of, w8_of]) <;> first | assumption | omega | (split <;> omega) | (refine And.intro ?_ ?_ <;> split <;> omega)) | omega) (by (try dsimp only) <;> first | assumption | omega | ((try simp (disch := omega) only [w32_of, w64_of, w8_of]) <;> first | assumption | omega | (split <;> omega) | (refine And.intro ?_ ?_ <;> split <;> omega)) | omega)) ?_
          rintro ⟨x_16, σ_15⟩ - y22
          try dsimp only at y22 ⊢
          obtain ⟨hσ_15, flσ_15, hp1, hp2, hp3, hp4, hp5⟩ := y22
          have frσ_15 : FC [kW_at, kW_number, kW_place, kW_wrong] [s_9] σ σ_15 := FC_tr frσ_10 flσ_15 (by first | decide | (rcases hE with rfl | rfl | rfl <;> decide)) (by first | decide | (rcases hE with rfl | rfl | rfl <;> decide)) (by simp) (by simp)
          have hkσ_15 : (σ_15 kW_shape 0).toNat = s_9 := by rw [FC_at frσ_15 (c := kW_shape) (by decide)]; exact hkσ
          try rw [hkσ_15]
          have c23 := iiA_points (s := s_9) hσ_10 (by first | assumption | decide | omega) 0
          have c24 := congrFun (FC_points (t := s_9) flσ_10 (by first | assumption | decide | omega) (NS_0 _)) 0
          have c25 := iiA_points (s := s_9) hσ_6 (by first | assumption | decide | omega) 0
          have c26 := congrFun (FC_points (t := s_9) flσ_6 (by first | assumption | decide | omega) (NS_0 _)) 0
          have c27 := iiA_points (s := s_9) hσ_2 (by first | assumption | decide | omega) 0
          have c28 := congrFun (FC_points (t := s_9) flσ_2 (by first | assumption | decide | omega) (NS_0 _)) 0
          have c29 := iiA_points (s := s_9) hσ (by first | assumption | decide | omega) 0
          try simp (disch := omega) only [w32_of, w64_of, w8_of] at hp1
          try simp (disch := omega) only [w32_of, w64_of, w8_of] at hp2
          have c30 := iiA_points (s := s_9) hσ_15 (by first | assumption | decide | omega) 0
          have c31 := iiA_x (s := s_9) hσ_15 (by first | assumption | decide | omega) (σ_10 (kA_points s_9) 0)
          have c32 := iiA_y (s := s_9) hσ_15 (by first | assumption | decide | omega) (σ_10 (kA_points s_9) 0)
          try simp (disch := omega) only [w32_of, w64_of, w8_of] at hp3
          try simp (disch := omega) only [w32_of, w64_of, w8_of] at hp4
          try simp (disch := omega) only [w32_of, w64_of, w8_of] at hp5
          refine wp_if (fun c33 => ?_) (fun c33 => ?_)
          · have k34 := hp1.mp c33
            try simp (disch := omega) only [w32_of, w64_of, w8_of] at k34
            have k36 := hp3 c33
            try simp (disch := omega) only [w32_of, w64_of, w8_of] at k36
            try simp (disch := omega) only [w32_of, w64_of, w8_of, decide_eq_true_eq, decide_eq_false_iff_not, Bool.not_eq_true] at c33
            have c37 := ii_kW_at hσ_15 0
            have c38 := FC_at flσ_15 (c := kW_at) (by first | decide | (rcases hE with rfl | rfl | rfl <;> decide)) 0
            exact wp_some ⟨hσ_15, frσ_15, (by (try dsimp only) <;> (intro q9; first | exact absurd q9 (by decide) | exact ⟨by have := (hp3 (by assumption)).1; have a10 := FC_points flσ_10 hs_s_9 (NS_0 _); have a6 := FC_points flσ_6 hs_s_9 (NS_0 _); have a2 := FC_points flσ_2 hs_s_9 (NS_0 _); rw [this, a10, a6, a2], hp4.trans ((FC_plans flσ_10 hs_s_9 (NS_0 _)).trans ((FC_plans flσ_6 hs_s_9 (NS_0 _)).trans (FC_plans flσ_2 hs_s_9 (NS_0 _)))), hp5.trans ((FC_plan flσ_10 hs_s_9 (NS_0 _)).trans ((FC_plan flσ_6 hs_s_9 (NS_0 _)).trans (FC_plan flσ_2 hs_s_9 (NS_0 _))))⟩)), (by (try dsimp only) <;> (intro q9; first | exact absurd q9 (by decide) | omega))⟩
          · have k39 := fun q => c33 (hp1.mpr q)
            try simp (disch := omega) only [w32_of, w64_of, w8_of] at k39
            have k40 := hp2 (Bool.eq_false_iff.mpr c33)
            try simp (disch := omega) only [w32_of, w64_of, w8_of] at k40
            try simp (disch := omega) only [w32_of, w64_of, w8_of, decide_eq_true_eq, decide_eq_false_iff_not, Bool.not_eq_true] at c33
            have c42 := ii_kW_at hσ_15 0
            have c43 := FC_at flσ_15 (c := kW_at) (by first | decide | (rcases hE with rfl | rfl | rfl <;> decide)) 0
            exact wp_some ⟨hσ_15, frσ_15, (fun q => (by cases q)), (fun q => (by cases q))⟩
        · try simp (disch := omega) only [w32_of, w64_of, w8_of, decide_eq_true_eq, decide_eq_false_iff_not, Bool.not_eq_true] at c19
          have c46 := iiA_points (s := s_9) hσ_10 (by first | assumption | decide | omega) 0
          have c47 := congrFun (FC_points (t := s_9) flσ_10 (by first | assumption | decide | omega) (NS_0 _)) 0
          have c48 := iiA_points (s := s_9) hσ_6 (by first | assumption | decide | omega) 0
          have c49 := congrFun (FC_points (t := s_9) flσ_6 (by first | assumption | decide | omega) (NS_0 _)) 0
          have c50 := iiA_points (s := s_9) hσ_2 (by first | assumption | decide | omega) 0
          have c51 := congrFun (FC_points (t := s_9) flσ_2 (by first | assumption | decide | omega) (NS_0 _)) 0
          have c52 := iiA_points (s := s_9) hσ (by first | assumption | decide | omega) 0
          exact wp_some ⟨hσ_10, frσ_10, (fun q => (by cases q)), (fun q => (by cases q))⟩
      rintro ⟨x_21, σ_22⟩ _ y53
      try dsimp only at y53 ⊢
      obtain ⟨hσ_22, frσ_22, hz, hz2⟩ := y53
      have hkσ_22 : (σ_22 kW_shape 0).toNat = s_9 := by rw [FC_at frσ_22 (c := kW_shape) (by decide)]; exact hkσ
      try rw [hkσ_22]
      have c54 := iiA_points (s := s_9) hσ_22 (by first | assumption | decide | omega) 0
      have c55 := iiA_points (s := s_9) hσ (by first | assumption | decide | omega) 0
      have c56 := ii_kW_at hσ_22 0
      exact wp_some ⟨hσ_22, frσ_22, (by (try dsimp only) <;> (intro q9; first | exact absurd q9 (by decide) | (rw [hfl] at q9; exact absurd q9 (by decide)) | exact hz q9)), (by (try dsimp only) <;> (intro q9; first | exact absurd q9 (by decide) | (rw [hfl] at q9; exact absurd q9 (by decide)) | exact hz2 q9))⟩
    · try simp (disch := omega) only [w32_of, w64_of, w8_of, decide_eq_true_eq, decide_eq_false_iff_not, Bool.not_eq_true] at c11
      have c59 := iiA_points (s := s_9) hσ_6 (by first | assumption | decide | omega) 0
      have c60 := congrFun (FC_points (t := s_9) flσ_6 (by first | assumption | decide | omega) (NS_0 _)) 0
      have c61 := iiA_points (s := s_9) hσ_2 (by first | assumption | decide | omega) 0
      have c62 := congrFun (FC_points (t := s_9) flσ_2 (by first | assumption | decide | omega) (NS_0 _)) 0
      have c63 := iiA_points (s := s_9) hσ (by first | assumption | decide | omega) 0
      exact wp_some ⟨hσ_6, frσ_6, (fun q => (by cases q)), (fun q => (by cases q))⟩
  · try simp (disch := omega) only [w32_of, w64_of, w8_of, decide_eq_true_eq, decide_eq_false_iff_not, Bool.not_eq_true, fA_hasRoomForPoint] at c5
    refine wp_bd (v_failW (σ := σ_2) (code_0 := 7) hσ_2 (by (try dsimp only) <;> first | assumption | omega | ((try simp (disch := omega) only [w32_of, w64_of, w8_of]) <;> first | assumption | omega | (split <;> omega) | (refine And.intro ?_ ?_ <;> split <;> omega)) | omega)) ?_
    rintro ⟨x_29, σ_28⟩ - y64
    try dsimp only at y64 ⊢
    obtain ⟨hσ_28, flσ_28, hfl⟩ := y64
    have frσ_28 : FC [kW_at, kW_number, kW_place, kW_wrong] [s_9] σ σ_28 := FC_tr frσ_2 flσ_28 (by first | decide | (rcases hE with rfl | rfl | rfl <;> decide)) (by first | decide | (rcases hE with rfl | rfl | rfl <;> decide)) (by simp) (by simp)
    have hkσ_28 : (σ_28 kW_shape 0).toNat = s_9 := by rw [FC_at frσ_28 (c := kW_shape) (by decide)]; exact hkσ
    try rw [hkσ_28]
    try simp (disch := omega) only [w32_of, w64_of, w8_of] at hfl
    have c65 := iiA_points (s := s_9) hσ_28 (by first | assumption | decide | omega) 0
    have c66 := congrFun (FC_points (t := s_9) flσ_28 (by first | assumption | decide | omega) (NS_0 _)) 0
    have c67 := iiA_points (s := s_9) hσ_2 (by first | assumption | decide | omega) 0
    have c68 := congrFun (FC_points (t := s_9) flσ_2 (by first | assumption | decide | omega) (NS_0 _)) 0
    have c69 := iiA_points (s := s_9) hσ (by first | assumption | decide | omega) 0
    have c70 := ii_kW_at hσ_28 0
    have c71 := FC_at flσ_28 (c := kW_at) (by first | decide | (rcases hE with rfl | rfl | rfl <;> decide)) 0
    exact wp_some ⟨hσ_28, frσ_28, (fun q => absurd (q.symm.trans hfl) (by decide)), (fun q => absurd (q.symm.trans hfl) (by decide))⟩
theorem s_W_isWord {σ : SG} {word_0 : Nat} (hσ : II σ) (w0 : word_0 < 12) : wp_ (fW_isWord σ word_0) (fun zz_ => ((zz_ = true) → (fW_behindWord σ = some (σ kW_at 0 + sLen word_0)))) := by
  unfold fW_isWord
  have hsl := sLen_b word_0 w0
  refine wp_bd (v_behindWordE (σ := σ) hσ) ?_
  rintro x_2 - ⟨hbw, hbx, hby, hbe⟩
  have c1 := ii_kW_at hσ 0
  try simp (disch := omega) only [w32_of, w64_of, w8_of] at hbw
  try simp (disch := omega) only [w32_of, w64_of, w8_of] at hbx
  have c2 := ii_kW_length hσ 0
  try simp (disch := omega) only [w32_of, w64_of, w8_of] at hby
  try simp (disch := omega) only [w32_of, w64_of, w8_of] at hbe
  have c4 := w32_rng (x_2 - (σ kW_at 0))
  have c5 := w32_rng (sLen word_0)
  refine wp_if (fun c3 => ?_) (fun c3 => ?_)
  · try simp (disch := omega) only [w32_of, w64_of, w8_of, decide_eq_true_eq, decide_eq_false_iff_not, Bool.not_eq_true] at c3
    exact wp_some (fun q => (by cases q))
  · try simp (disch := omega) only [w32_of, w64_of, w8_of, decide_eq_true_eq, decide_eq_false_iff_not, Bool.not_eq_true] at c3
    refine wp_bx (P := fun rr_ => (True)) ?_ ?_
    · refine wp_whl (fun ss_ => (0 ≤ ss_ ∧ ss_ ≤ 90)) (fun ss_ => (91 - ss_).toNat) (by (try dsimp only) <;> first | assumption | omega | ((try simp (disch := omega) only [w32_of, w64_of, w8_of]) <;> first | assumption | omega | (split <;> omega) | (refine And.intro ?_ ?_ <;> split <;> omega)) | omega) ?_
      rintro i_4 g6
      have c8 := w32_rng i_4
      refine wp_if (fun c7 => ?_) (fun c7 => ?_)
      · try simp (disch := omega) only [w32_of, w64_of, w8_of, decide_eq_true_eq, decide_eq_false_iff_not, Bool.not_eq_true] at c7
        refine wp_bd (v_signAt (σ := σ) (i_0 := ((σ kW_at 0) + i_4)) hσ) ?_
        rintro x_14 - ⟨hsg, g9⟩
        try simp (disch := omega) only [w32_of, w64_of, w8_of] at hsg
        try simp (disch := omega) only [w32_of, w64_of, w8_of] at g9
        refine wp_ck (by (try dsimp only) <;> first | assumption | omega | ((try simp (disch := omega) only [w32_of, w64_of, w8_of]) <;> first | assumption | omega | (split <;> omega) | (refine And.intro ?_ ?_ <;> split <;> omega)) | omega) ?_
        have c11 := q_ian_rng x_14 (-33)
        have c12 := w32_rng (q_ian x_14 (-33))
        have c13 := w32_rng (sChr word_0 (w32 i_4))
        refine wp_if (fun c10 => ?_) (fun c10 => ?_)
        · try simp (disch := omega) only [w32_of, w64_of, w8_of, decide_eq_true_eq, decide_eq_false_iff_not, Bool.not_eq_true] at c10
          exact wp_some (x_inr (x_inr (fun q => (by cases q))))
        · try simp (disch := omega) only [w32_of, w64_of, w8_of, decide_eq_true_eq, decide_eq_false_iff_not, Bool.not_eq_true] at c10
          exact wp_some (x_inl ⟨(by (try dsimp only) <;> first | assumption | omega | ((try simp (disch := omega) only [w32_of, w64_of, w8_of]) <;> first | assumption | omega | (split <;> omega) | (refine And.intro ?_ ?_ <;> split <;> omega)) | omega), (by (try dsimp only) <;> first | assumption | omega | ((try simp (disch := omega) only [w32_of, w64_of, w8_of]) <;> first | assumption | omega | (split <;> omega) | (refine And.intro ?_ ?_ <;> split <;> omega)) | omega)⟩)
      · try simp (disch := omega) only [w32_of, w64_of, w8_of, decide_eq_true_eq, decide_eq_false_iff_not, Bool.not_eq_true] at c7
        exact wp_some (x_inr (x_inl (by (try dsimp only) <;> first | assumption | omega | ((try simp (disch := omega) only [w32_of, w64_of, w8_of]) <;> first | assumption | omega | (split <;> omega) | (refine And.intro ?_ ?_ <;> split <;> omega)) | omega)))
    rintro i_19 g14
    exact wp_some (by (try dsimp only) <;> (first | (intro q9; exact absurd q9 (by decide)) | (intro _; rw [hbe, show x_2 = σ kW_at 0 + sLen word_0 by omega])))
theorem s_W_openLevel {σ : SG} {kind_0 : Int} {s_9 : Nat} (hσ : II σ) (hs_s_9 : isS s_9) (hkσ : (σ kW_shape 0).toNat = s_9) (w0 : 0 ≤ kind_0 ∧ kind_0 ≤ 8) (w1 : 1 ≤ σ (kA_plans s_9) 0) (w2 : σ kW_at 0 ≤ 65535) : wp_ (fW_openLevel σ kind_0) (fun zz_ => II zz_.2 ∧ FC [kW_at, kW_collections, kW_depth, kW_levelCounter, kW_levelKind, kW_place, kW_wrong] [] σ zz_.2 ∧ ((zz_.1 = true) → (OLs σ zz_.2 s_9 kind_0)) ∧ ((zz_.1 = true) → (zz_.2 kW_at 0 = σ kW_at 0 + 1))) := by
  unfold fW_openLevel
  have c1 := iiA_plans (s := s_9) hσ (by first | assumption | decide | omega) 0
  have c2 := ii_kW_at hσ 0
  have hdp := ii_kW_depth hσ 0
  have hpl := iiA_plans hσ hs_s_9 0
  try rw [hkσ]
  have c4 := ii_kW_depth hσ 0
  have c5 := w32_rng (σ kW_depth 0)
  refine wp_if (fun c3 => ?_) (fun c3 => ?_)
  · try simp (disch := omega) only [w32_of, w64_of, w8_of, decide_eq_true_eq, decide_eq_false_iff_not, Bool.not_eq_true] at c3
    refine wp_bd (v_failW (σ := σ) (code_0 := 6) hσ (by (try dsimp only) <;> first | assumption | omega | ((try simp (disch := omega) only [w32_of, w64_of, w8_of]) <;> first | assumption | omega | (split <;> omega) | (refine And.intro ?_ ?_ <;> split <;> omega)) | omega)) ?_
    rintro ⟨x_4, σ_3⟩ - y6
    try dsimp only at y6 ⊢
    obtain ⟨hσ_3, flσ_3, hfl⟩ := y6
    have frσ_3 : FC [kW_at, kW_collections, kW_depth, kW_levelCounter, kW_levelKind, kW_place, kW_wrong] [] σ σ_3 := FC_le flσ_3 (by first | decide | (rcases hE with rfl | rfl | rfl <;> decide)) (by simp)
    have hkσ_3 : (σ_3 kW_shape 0).toNat = s_9 := by rw [FC_at frσ_3 (c := kW_shape) (by decide)]; exact hkσ
    try rw [hkσ_3]
    try simp (disch := omega) only [w32_of, w64_of, w8_of] at hfl
    have c7 := ii_kW_at hσ_3 0
    have c8 := FC_at flσ_3 (c := kW_at) (by first | decide | (rcases hE with rfl | rfl | rfl <;> decide)) 0
    exact wp_some ⟨hσ_3, frσ_3, (fun q => absurd (q.symm.trans hfl) (by decide)), (fun q => absurd (q.symm.trans hfl) (by decide))⟩
  · try simp (disch := omega) only [w32_of, w64_of, w8_of, decide_eq_true_eq, decide_eq_false_iff_not, Bool.not_eq_true] at c3
    refine wp_waI hσ b_kW_levelKind (by (try dsimp only) <;> first | assumption | omega | ((try simp (disch := omega) only [w32_of, w64_of, w8_of]) <;> first | assumption | omega | (split <;> omega) | (refine And.intro ?_ ?_ <;> split <;> omega)) | omega) (by (try dsimp only) <;> first | assumption | omega | ((try simp (disch := omega) only [w32_of, w64_of, w8_of]) <;> first | assumption | omega | (split <;> omega) | (refine And.intro ?_ ?_ <;> split <;> omega)) | omega) (by (try dsimp only) <;> first | assumption | omega | ((try simp (disch := omega) only [w32_of, w64_of, w8_of]) <;> first | assumption | omega | (split <;> omega) | (refine And.intro ?_ ?_ <;> split <;> omega)) | omega) (fun σ_5 hσ_5 eσ_5 => ?_)
    try simp (disch := omega) only [w32_of, w64_of, w8_of] at eσ_5
    have flσ_5 := FC_sg eσ_5 (by first | decide | (rcases hE with rfl | rfl | rfl <;> decide))
    have frσ_5 : FC [kW_at, kW_collections, kW_depth, kW_levelCounter, kW_levelKind, kW_place, kW_wrong] [] σ σ_5 := FC_le flσ_5 (by first | decide | (rcases hE with rfl | rfl | rfl <;> decide)) (by simp)
    have hkσ_5 : (σ_5 kW_shape 0).toNat = s_9 := by rw [FC_at frσ_5 (c := kW_shape) (by decide)]; exact hkσ
    try rw [hkσ_5]
    refine wp_ck (by first | assumption | decide | omega) ?_
    have c9 := iiA_plans (s := s_9) hσ_5 (by first | assumption | decide | omega) 0
    have c10 := congrFun (FC_plans (t := s_9) flσ_5 (by first | assumption | decide | omega) (NS_0 _)) 0
    have c11 := ii_kW_depth hσ_5 0
    have c12 := FC_at flσ_5 (c := kW_depth) (by first | decide | (rcases hE with rfl | rfl | rfl <;> decide)) 0
    have c13 := w32_rng (σ_5 kW_depth 0)
    refine wp_waI hσ_5 b_kW_levelCounter (by (try dsimp only) <;> first | assumption | omega | ((try simp (disch := omega) only [w32_of, w64_of, w8_of]) <;> first | assumption | omega | (split <;> omega) | (refine And.intro ?_ ?_ <;> split <;> omega)) | omega) (by (try dsimp only) <;> first | assumption | omega | ((try simp (disch := omega) only [w32_of, w64_of, w8_of]) <;> first | assumption | omega | (split <;> omega) | (refine And.intro ?_ ?_ <;> split <;> omega)) | omega) (by (try dsimp only) <;> first | assumption | omega | ((try simp (disch := omega) only [w32_of, w64_of, w8_of]) <;> first | assumption | omega | (split <;> omega) | (refine And.intro ?_ ?_ <;> split <;> omega)) | omega) (fun σ_8 hσ_8 eσ_8 => ?_)
    try simp (disch := omega) only [w32_of, w64_of, w8_of] at eσ_8
    have flσ_8 := FC_sg eσ_8 (by first | decide | (rcases hE with rfl | rfl | rfl <;> decide))
    have frσ_8 : FC [kW_at, kW_collections, kW_depth, kW_levelCounter, kW_levelKind, kW_place, kW_wrong] [] σ σ_8 := FC_tr frσ_5 flσ_8 (by first | decide | (rcases hE with rfl | rfl | rfl <;> decide)) (by first | decide | (rcases hE with rfl | rfl | rfl <;> decide)) (by simp) (by simp)
    have hkσ_8 : (σ_8 kW_shape 0).toNat = s_9 := by rw [FC_at frσ_8 (c := kW_shape) (by decide)]; exact hkσ
    try rw [hkσ_8]
    have c14 := ii_kW_depth hσ_8 0
    have c15 := FC_at flσ_8 (c := kW_depth) (by first | decide | (rcases hE with rfl | rfl | rfl <;> decide)) 0
    refine wp_wfI hσ_8 b_kW_depth (by (try dsimp only) <;> first | assumption | omega | ((try simp (disch := omega) only [w32_of, w64_of, w8_of]) <;> first | assumption | omega | (split <;> omega) | (refine And.intro ?_ ?_ <;> split <;> omega)) | omega) (fun σ_10 hσ_10 eσ_10 => ?_)
    try simp (disch := omega) only [w32_of, w64_of, w8_of] at eσ_10
    have flσ_10 := FC_sg eσ_10 (by first | decide | (rcases hE with rfl | rfl | rfl <;> decide))
    have frσ_10 : FC [kW_at, kW_collections, kW_depth, kW_levelCounter, kW_levelKind, kW_place, kW_wrong] [] σ σ_10 := FC_tr frσ_8 flσ_10 (by first | decide | (rcases hE with rfl | rfl | rfl <;> decide)) (by first | decide | (rcases hE with rfl | rfl | rfl <;> decide)) (by simp) (by simp)
    have hkσ_10 : (σ_10 kW_shape 0).toNat = s_9 := by rw [FC_at frσ_10 (c := kW_shape) (by decide)]; exact hkσ
    try rw [hkσ_10]
    refine wp_bd (P := fun rr_ => II rr_ ∧ FC [kW_at, kW_collections, kW_depth, kW_levelCounter, kW_levelKind, kW_place, kW_wrong] [] σ rr_ ∧ (rr_ kW_at 0 = σ kW_at 0) ∧ (rr_ kW_depth 0 = σ kW_depth 0 + 1) ∧ (rr_ kW_levelKind = σ_5 kW_levelKind ∧ rr_ kW_levelCounter = σ_8 kW_levelCounter)) ?_ ?_
    · have c17 := w32_rng kind_0
      refine wp_if (fun c16 => ?_) (fun c16 => ?_)
      · try simp (disch := omega) only [w32_of, w64_of, w8_of, decide_eq_true_eq, decide_eq_false_iff_not, Bool.not_eq_true] at c16
        have c18 := FC_at flσ_10 (c := kW_collections) (by first | decide | (rcases hE with rfl | rfl | rfl <;> decide)) 0
        have c19 := FC_at flσ_8 (c := kW_collections) (by first | decide | (rcases hE with rfl | rfl | rfl <;> decide)) 0
        have c20 := FC_at flσ_5 (c := kW_collections) (by first | decide | (rcases hE with rfl | rfl | rfl <;> decide)) 0
        refine wp_wfN hσ_10 b_kW_collections (fun σ_16 hσ_16 eσ_16 => ?_)
        try simp (disch := omega) only [w32_of, w64_of, w8_of] at eσ_16
        have flσ_16 := FC_sg eσ_16 (by first | decide | (rcases hE with rfl | rfl | rfl <;> decide))
        have frσ_16 : FC [kW_at, kW_collections, kW_depth, kW_levelCounter, kW_levelKind, kW_place, kW_wrong] [] σ σ_16 := FC_tr frσ_10 flσ_16 (by first | decide | (rcases hE with rfl | rfl | rfl <;> decide)) (by first | decide | (rcases hE with rfl | rfl | rfl <;> decide)) (by simp) (by simp)
        have hkσ_16 : (σ_16 kW_shape 0).toNat = s_9 := by rw [FC_at frσ_16 (c := kW_shape) (by decide)]; exact hkσ
        try rw [hkσ_16]
        have c21 := ii_kW_at hσ_16 0
        have c22 := FC_at flσ_16 (c := kW_at) (by first | decide | (rcases hE with rfl | rfl | rfl <;> decide)) 0
        have c23 := ii_kW_at hσ_10 0
        have c24 := FC_at flσ_10 (c := kW_at) (by first | decide | (rcases hE with rfl | rfl | rfl <;> decide)) 0
        have c25 := ii_kW_at hσ_8 0
        have c26 := FC_at flσ_8 (c := kW_at) (by first | decide | (rcases hE with rfl | rfl | rfl <;> decide)) 0
        have c27 := ii_kW_at hσ_5 0
        have c28 := FC_at flσ_5 (c := kW_at) (by first | decide | (rcases hE with rfl | rfl | rfl <;> decide)) 0
        have c29 := ii_kW_depth hσ_16 0
        have c30 := FC_at flσ_16 (c := kW_depth) (by first | decide | (rcases hE with rfl | rfl | rfl <;> decide)) 0
        have c31 := ii_kW_depth hσ_10 0
        have c32 := sg_val eσ_10
        exact wp_some ⟨hσ_16, frσ_16, (by (try dsimp only) <;> first | assumption | omega | ((try simp (disch := omega) only [w32_of, w64_of, w8_of]) <;> first | assumption | omega | (split <;> omega) | (refine And.intro ?_ ?_ <;> split <;> omega)) | omega), (by (try dsimp only) <;> first | assumption | omega | ((try simp (disch := omega) only [w32_of, w64_of, w8_of]) <;> first | assumption | omega | (split <;> omega) | (refine And.intro ?_ ?_ <;> split <;> omega)) | omega), (by (try dsimp only) <;> (first | (refine ⟨?_, ?_⟩ <;> (funext i; rw [eσ_16, sg_nc (by decide), eσ_10, sg_nc (by decide)]); rw [eσ_8, sg_nc (by decide)]) | (refine ⟨?_, ?_⟩ <;> (funext i; rw [eσ_10, sg_nc (by decide)]); rw [eσ_8, sg_nc (by decide)])))⟩
      · try simp (disch := omega) only [w32_of, w64_of, w8_of, decide_eq_true_eq, decide_eq_false_iff_not, Bool.not_eq_true] at c16
        have c33 := ii_kW_at hσ_10 0
        have c34 := FC_at flσ_10 (c := kW_at) (by first | decide | (rcases hE with rfl | rfl | rfl <;> decide)) 0
        have c35 := ii_kW_at hσ_8 0
        have c36 := FC_at flσ_8 (c := kW_at) (by first | decide | (rcases hE with rfl | rfl | rfl <;> decide)) 0
        have c37 := ii_kW_at hσ_5 0
        have c38 := FC_at flσ_5 (c := kW_at) (by first | decide | (rcases hE with rfl | rfl | rfl <;> decide)) 0
        have c39 := ii_kW_depth hσ_10 0
        have c40 := sg_val eσ_10
        exact wp_some ⟨hσ_10, frσ_10, (by (try dsimp only) <;> first | assumption | omega | ((try simp (disch := omega) only [w32_of, w64_of, w8_of]) <;> first | assumption | omega | (split <;> omega) | (refine And.intro ?_ ?_ <;> split <;> omega)) | omega), (by (try dsimp only) <;> first | assumption | omega | ((try simp (disch := omega) only [w32_of, w64_of, w8_of]) <;> first | assumption | omega | (split <;> omega) | (refine And.intro ?_ ?_ <;> split <;> omega)) | omega), (by (try dsimp only) <;> (first | (refine ⟨?_, ?_⟩ <;> (funext i; rw [eσ_16, sg_nc (by decide), eσ_10, sg_nc (by decide)]); rw [eσ_8, sg_nc (by decide)]) | (refine ⟨?_, ?_⟩ <;> (funext i; rw [eσ_10, sg_nc (by decide)]); rw [eσ_8, sg_nc (by decide)])))⟩
    rintro σ_19 _ ⟨hσ_19, frσ_19, g41, g42, hl9⟩
    have hkσ_19 : (σ_19 kW_shape 0).toNat = s_9 := by rw [FC_at frσ_19 (c := kW_shape) (by decide)]; exact hkσ
    try rw [hkσ_19]
    have c43 := ii_kW_at hσ_19 0
    refine wp_wfI hσ_19 b_kW_at (by (try dsimp only) <;> first | assumption | omega | ((try simp (disch := omega) only [w32_of, w64_of, w8_of]) <;> first | assumption | omega | (split <;> omega) | (refine And.intro ?_ ?_ <;> split <;> omega)) | omega) (fun σ_20 hσ_20 eσ_20 => ?_)
    try simp (disch := omega) only [w32_of, w64_of, w8_of] at eσ_20
    have flσ_20 := FC_sg eσ_20 (by first | decide | (rcases hE with rfl | rfl | rfl <;> decide))
    have frσ_20 : FC [kW_at, kW_collections, kW_depth, kW_levelCounter, kW_levelKind, kW_place, kW_wrong] [] σ σ_20 := FC_tr frσ_19 flσ_20 (by first | decide | (rcases hE with rfl | rfl | rfl <;> decide)) (by first | decide | (rcases hE with rfl | rfl | rfl <;> decide)) (by simp) (by simp)
    have hkσ_20 : (σ_20 kW_shape 0).toNat = s_9 := by rw [FC_at frσ_20 (c := kW_shape) (by decide)]; exact hkσ
    try rw [hkσ_20]
    have hd5 : σ_5 kW_depth 0 = σ kW_depth 0 := by rw [eσ_5]; exact sg_nc (by decide)
    rw [hd5, FC_plans flσ_5 hs_s_9 (NS_0 _)] at eσ_8
    have hol : OLs σ σ_20 s_9 kind_0 := ⟨by rw [FC_at flσ_20 (c := kW_depth) (by decide)]; assumption, by rw [FC_at flσ_20 (c := kW_levelKind) (by decide), hl9.1, eσ_5, sg_at], by rw [FC_at flσ_20 (c := kW_levelCounter) (by decide), hl9.2, eσ_8, sg_at], fun i hi => ⟨by rw [FC_at flσ_20 (c := kW_levelKind) (by decide), hl9.1, eσ_5, sg_ni hi], by rw [FC_at flσ_20 (c := kW_levelCounter) (by decide), hl9.2, eσ_8, sg_ni hi, eσ_5, sg_nc (by decide)]⟩⟩
    have c44 := ii_kW_at hσ_20 0
    have c45 := sg_val eσ_20
    exact wp_some ⟨hσ_20, frσ_20, (by (try dsimp only) <;> (intro q9; first | (rw [hfl] at q9; exact absurd q9 (by decide)) | exact hol)), (by (try dsimp only) <;> (intro q9; first | (rw [hfl] at q9; exact absurd q9 (by decide)) | omega))⟩
theorem s_W_readEmptyOrBracket {σ : SG} {kind_0 : Int} {s_9 : Nat} (hσ : II σ) (qkind_0 : 1 ≤ kind_0 ∧ kind_0 ≤ 7) (hs_s_9 : isS s_9) (hkσ : (σ kW_shape 0).toNat = s_9) (w0 : WNs σ s_9 kind_0) (w1 : 1 ≤ σ (kA_plans s_9) 0) : wp_ (fW_readEmptyOrBracket σ kind_0) (fun zz_ => II zz_.2 ∧ FC [kW_at, kW_collections, kW_depth, kW_levelCounter, kW_levelKind, kW_place, kW_wrong] [] σ zz_.2 ∧ ((zz_.1 = true) → (WIs zz_.2 s_9)) ∧ ((zz_.1 = true) → (σ kW_at 0 < zz_.2 kW_at 0 ∧ zz_.2 kW_at 0 ≤ σ kW_length 0))) := by
  unfold fW_readEmptyOrBracket
  have c1 := iiA_plans (s := s_9) hσ (by first | assumption | decide | omega) 0
  have hln := ii_kW_length hσ 0
  have hat0 := ii_kW_at hσ 0
  try rw [hkσ]
  refine wp_bd (s_W_skipBlanks (σ := σ) hσ) ?_
  rintro σ_2 - ⟨hσ_2, flσ_2, hsk, g2⟩
  have frσ_2 : FC [kW_at, kW_collections, kW_depth, kW_levelCounter, kW_levelKind, kW_place, kW_wrong] [] σ σ_2 := FC_le flσ_2 (by first | decide | (rcases hE with rfl | rfl | rfl <;> decide)) (by simp)
  have hkσ_2 : (σ_2 kW_shape 0).toNat = s_9 := by rw [FC_at frσ_2 (c := kW_shape) (by decide)]; exact hkσ
  try rw [hkσ_2]
  have c3 := ii_kW_at hσ 0
  have c4 := ii_kW_at hσ_2 0
  try simp (disch := omega) only [w32_of, w64_of, w8_of] at hsk
  have c5 := ii_kW_length hσ 0
  try simp (disch := omega) only [w32_of, w64_of, w8_of] at g2
  refine wp_bd (v_signAt (σ := σ_2) (i_0 := (σ_2 kW_at 0)) hσ_2) ?_
  rintro x_4 - ⟨s4, t4⟩
  try simp (disch := omega) only [w32_of, w64_of, w8_of] at s4
  try simp (disch := omega) only [w32_of, w64_of, w8_of] at t4
  have hat2 := ii_kW_at hσ_2 0
  have hl2 : σ_2 kW_length 0 = σ kW_length 0 := FC_at frσ_2 (c := kW_length) (by decide) 0
  have i4 : 0 ≤ x_4 → σ_2 kW_at 0 < σ_2 kW_length 0 := fun q => by rw [s4] at q; have := sgA_in hσ_2 q; rw [w32_of (by omega) (by omega)] at this; exact this.2
  have hn2 := WNs_f w0 flσ_2 hs_s_9 (by decide)
  have c7 := w32_rng x_4
  refine wp_if (fun c6 => ?_) (fun c6 => ?_)
  · try simp (disch := omega) only [w32_of, w64_of, w8_of, decide_eq_true_eq, decide_eq_false_iff_not, Bool.not_eq_true] at c6
    have c8 := ii_kW_shape hσ_2 0
    have c9 := FC_at flσ_2 (c := kW_shape) (by first | decide | (rcases hE with rfl | rfl | rfl <;> decide)) 0
    have c10 := ii_kW_shape hσ 0
    have c11 := iiA_plans (s := s_9) hσ_2 (by first | assumption | decide | omega) 0
    have c12 := congrFun (FC_plans (t := s_9) flσ_2 (by first | assumption | decide | omega) (NS_0 _)) 0
    refine wp_bd (s_W_openLevel (σ := σ_2) (kind_0 := kind_0) hσ_2 (by first | assumption | decide | omega) (by (try dsimp only) <;> first | assumption | omega | ((try simp (disch := omega) only [w32_of, w64_of, w8_of]) <;> first | assumption | omega | (split <;> omega) | (refine And.intro ?_ ?_ <;> split <;> omega)) | omega) (by (try dsimp only) <;> first | assumption | omega | ((try simp (disch := omega) only [w32_of, w64_of, w8_of]) <;> first | assumption | omega | (split <;> omega) | (refine And.intro ?_ ?_ <;> split <;> omega)) | omega) (by (try simp only [FC_plans (t := s_9) frσ_2 (by first | assumption | decide | omega) (NS_0 _)]) <;> ((try dsimp only) <;> first | assumption | omega | ((try simp (disch := omega) only [w32_of, w64_of, w8_of]) <;> first | assumption | omega | (split <;> omega) | (refine And.intro ?_ ?_ <;> split <;> omega)) | omega)) (by (try dsimp only) <;> first | assumption | omega | ((try simp (disch := omega) only [w32_of, w64_of, w8_of]) <;> first | assumption | omega | (split <;> omega) | (refine And.intro ?_ ?_ <;> split <;> omega)) | omega)) ?_
    rintro ⟨x_8, σ_7⟩ - y13
    try dsimp only at y13 ⊢
    obtain ⟨hσ_7, flσ_7, hol, hoa⟩ := y13
    have frσ_7 : FC [kW_at, kW_collections, kW_depth, kW_levelCounter, kW_levelKind, kW_place, kW_wrong] [] σ σ_7 := FC_tr frσ_2 flσ_7 (by first | decide | (rcases hE with rfl | rfl | rfl <;> decide)) (by first | decide | (rcases hE with rfl | rfl | rfl <;> decide)) (by simp) (by simp)
    have hkσ_7 : (σ_7 kW_shape 0).toNat = s_9 := by rw [FC_at frσ_7 (c := kW_shape) (by decide)]; exact hkσ
    try rw [hkσ_7]
    try simp (disch := omega) only [w32_of, w64_of, w8_of] at hol
    have c14 := ii_kW_at hσ_7 0
    try simp (disch := omega) only [w32_of, w64_of, w8_of] at hoa
    exact wp_some ⟨hσ_7, frσ_7, (by (try dsimp only) <;> (intro q9; first | (rw [hfl] at q9; exact absurd q9 (by decide)) | (rw [hun] at q9; exact absurd q9 (by decide)) | exact WNs_open hσ_2 hs_s_9 hn2 flσ_7 (hol q9) | exact WNs_close (WNs_f hn2 flσ_17 hs_s_9 (by decide)))), (by (try dsimp only) <;> (intro q9; first | (rw [hfl] at q9; exact absurd q9 (by decide)) | (rw [hun] at q9; exact absurd q9 (by decide)) | (have q8 := hoa q9; omega) | (have q8 := hbe.symm.trans (hiw (by assumption)); injection q8 with q7; have q6 : sLen 8 = 5 := (by decide); omega)))⟩
  · try simp (disch := omega) only [w32_of, w64_of, w8_of, decide_eq_true_eq, decide_eq_false_iff_not, Bool.not_eq_true] at c6
    refine wp_bd (v_signAt (σ := σ_2) (i_0 := (σ_2 kW_at 0)) hσ_2) ?_
    rintro x_10 - ⟨s10, t10⟩
    try simp (disch := omega) only [w32_of, w64_of, w8_of] at s10
    try simp (disch := omega) only [w32_of, w64_of, w8_of] at t10
    have i10 : 0 ≤ x_10 → σ_2 kW_at 0 < σ_2 kW_length 0 := fun q => by rw [s10] at q; have := sgA_in hσ_2 q; rw [w32_of (by omega) (by omega)] at this; exact this.2
    refine wp_if (fun c15 => ?_) (fun c15 => ?_)
    · try simp (disch := omega) only [w32_of, w64_of, w8_of, decide_eq_true_eq, decide_eq_false_iff_not, Bool.not_eq_true, fW_isLetter] at c15
      have hb10 : 0 ≤ x_10 := by omega
      have i10b := i10 hb10
      refine wp_bd (s_W_isWord (σ := σ_2) (word_0 := 8) hσ_2 (by (try dsimp only) <;> first | assumption | omega | ((try simp (disch := omega) only [w32_of, w64_of, w8_of]) <;> first | assumption | omega | (split <;> omega) | (refine And.intro ?_ ?_ <;> split <;> omega)) | omega)) ?_
      rintro x_13 - hiw
      try simp (disch := omega) only [w32_of, w64_of, w8_of] at hiw
      refine wp_if (fun c16 => ?_) (fun c16 => ?_)
      · have k17 := hiw c16
        try simp (disch := omega) only [w32_of, w64_of, w8_of] at k17
        try simp (disch := omega) only [w32_of, w64_of, w8_of, decide_eq_true_eq, decide_eq_false_iff_not, Bool.not_eq_true] at c16
        refine wp_bd (v_behindWordE (σ := σ_2) hσ_2) ?_
        rintro x_16 - ⟨hbw, hbx, hby, hbe⟩
        try simp (disch := omega) only [w32_of, w64_of, w8_of] at hbw
        try simp (disch := omega) only [w32_of, w64_of, w8_of] at hbx
        have c18 := ii_kW_length hσ_2 0
        have c19 := FC_at flσ_2 (c := kW_length) (by first | decide | (rcases hE with rfl | rfl | rfl <;> decide)) 0
        try simp (disch := omega) only [w32_of, w64_of, w8_of] at hby
        try simp (disch := omega) only [w32_of, w64_of, w8_of] at hbe
        refine wp_wfI hσ_2 b_kW_at (by (try dsimp only) <;> first | assumption | omega | ((try simp (disch := omega) only [w32_of, w64_of, w8_of]) <;> first | assumption | omega | (split <;> omega) | (refine And.intro ?_ ?_ <;> split <;> omega)) | omega) (fun σ_17 hσ_17 eσ_17 => ?_)
        try simp (disch := omega) only [w32_of, w64_of, w8_of] at eσ_17
        have flσ_17 := FC_sg eσ_17 (by first | decide | (rcases hE with rfl | rfl | rfl <;> decide))
        have frσ_17 : FC [kW_at, kW_collections, kW_depth, kW_levelCounter, kW_levelKind, kW_place, kW_wrong] [] σ σ_17 := FC_tr frσ_2 flσ_17 (by first | decide | (rcases hE with rfl | rfl | rfl <;> decide)) (by first | decide | (rcases hE with rfl | rfl | rfl <;> decide)) (by simp) (by simp)
        have hkσ_17 : (σ_17 kW_shape 0).toNat = s_9 := by rw [FC_at frσ_17 (c := kW_shape) (by decide)]; exact hkσ
        try rw [hkσ_17]
        have c20 := ii_kW_at hσ_17 0
        have c21 := sg_val eσ_17
        exact wp_some ⟨hσ_17, frσ_17, (by (try dsimp only) <;> (intro q9; first | (rw [hfl] at q9; exact absurd q9 (by decide)) | (rw [hun] at q9; exact absurd q9 (by decide)) | exact WNs_open hσ_2 hs_s_9 hn2 flσ_7 (hol q9) | exact WNs_close (WNs_f hn2 flσ_17 hs_s_9 (by decide)))), (by (try dsimp only) <;> (intro q9; first | (rw [hfl] at q9; exact absurd q9 (by decide)) | (rw [hun] at q9; exact absurd q9 (by decide)) | (have q8 := hoa q9; omega) | (have q8 := hbe.symm.trans (hiw (by assumption)); injection q8 with q7; have q6 : sLen 8 = 5 := (by decide); omega)))⟩
      · try simp (disch := omega) only [w32_of, w64_of, w8_of, decide_eq_true_eq, decide_eq_false_iff_not, Bool.not_eq_true] at c16
        refine wp_bd (v_failW (σ := σ_2) (code_0 := 2) hσ_2 (by (try dsimp only) <;> first | assumption | omega | ((try simp (disch := omega) only [w32_of, w64_of, w8_of]) <;> first | assumption | omega | (split <;> omega) | (refine And.intro ?_ ?_ <;> split <;> omega)) | omega)) ?_
        rintro ⟨x_20, σ_19⟩ - y23
        try dsimp only at y23 ⊢
        obtain ⟨hσ_19, flσ_19, hfl⟩ := y23
        have frσ_19 : FC [kW_at, kW_collections, kW_depth, kW_levelCounter, kW_levelKind, kW_place, kW_wrong] [] σ σ_19 := FC_tr frσ_2 flσ_19 (by first | decide | (rcases hE with rfl | rfl | rfl <;> decide)) (by first | decide | (rcases hE with rfl | rfl | rfl <;> decide)) (by simp) (by simp)
        have hkσ_19 : (σ_19 kW_shape 0).toNat = s_9 := by rw [FC_at frσ_19 (c := kW_shape) (by decide)]; exact hkσ
        try rw [hkσ_19]
        try simp (disch := omega) only [w32_of, w64_of, w8_of] at hfl
        have c24 := ii_kW_at hσ_19 0
        have c25 := FC_at flσ_19 (c := kW_at) (by first | decide | (rcases hE with rfl | rfl | rfl <;> decide)) 0
        exact wp_some ⟨hσ_19, frσ_19, (fun q => absurd (q.symm.trans hfl) (by decide)), (fun q => absurd (q.symm.trans hfl) (by decide))⟩
    · try simp (disch := omega) only [w32_of, w64_of, w8_of, decide_eq_true_eq, decide_eq_false_iff_not, Bool.not_eq_true, fW_isLetter] at c15
      refine wp_bd (s_W_unexpected (σ := σ_2) hσ_2) ?_
      rintro ⟨x_23, σ_22⟩ - y26
      try dsimp only at y26 ⊢
      obtain ⟨hσ_22, flσ_22, hun⟩ := y26
      have frσ_22 : FC [kW_at, kW_collections, kW_depth, kW_levelCounter, kW_levelKind, kW_place, kW_wrong] [] σ σ_22 := FC_tr frσ_2 flσ_22 (by first | decide | (rcases hE with rfl | rfl | rfl <;> decide)) (by first | decide | (rcases hE with rfl | rfl | rfl <;> decide)) (by simp) (by simp)
      have hkσ_22 : (σ_22 kW_shape 0).toNat = s_9 := by rw [FC_at frσ_22 (c := kW_shape) (by decide)]; exact hkσ
      try rw [hkσ_22]
      try simp (disch := omega) only [w32_of, w64_of, w8_of] at hun
      have c27 := ii_kW_at hσ_22 0
      have c28 := FC_at flσ_22 (c := kW_at) (by first | decide | (rcases hE with rfl | rfl | rfl <;> decide)) 0
      exact wp_some ⟨hσ_22, frσ_22, (fun q => absurd (q.symm.trans hun) (by decide)), (fun q => absurd (q.symm.trans hun) (by decide))⟩
theorem s_W_readPart {σ : SG} {kind_0 : Int} {s_9 : Nat} (hσ : II σ) (qkind_0 : 1 ≤ kind_0 ∧ kind_0 ≤ 3) (hs_s_9 : isS s_9) (hkσ : (σ kW_shape 0).toNat = s_9) (w0 : WOs σ s_9 (σ (kA_plans s_9) 0) (σ (kA_points s_9) 0)) : wp_ (fW_readPart σ kind_0) (fun zz_ => II zz_.2 ∧ FC [kW_at, kW_collections, kW_depth, kW_levelCounter, kW_levelKind, kW_number, kW_place, kW_wrong] [s_9] σ zz_.2 ∧ ((zz_.1 = true) → (WIs zz_.2 s_9)) ∧ ((zz_.1 = true) → (σ kW_at 0 < zz_.2 kW_at 0 ∧ zz_.2 kW_at 0 ≤ σ kW_length 0))) := by
  unfold fW_readPart
  have c1 := iiA_plans (s := s_9) hσ (by first | assumption | decide | omega) 0
  have c2 := iiA_points (s := s_9) hσ (by first | assumption | decide | omega) 0
  have hln := ii_kW_length hσ 0
  have hpl := iiA_plans hσ hs_s_9 0
  try rw [hkσ]
  refine wp_bd (s_W_skipBlanks (σ := σ) hσ) ?_
  rintro σ_2 - ⟨hσ_2, flσ_2, hsk, g3⟩
  have frσ_2 : FC [kW_at, kW_collections, kW_depth, kW_levelCounter, kW_levelKind, kW_number, kW_place, kW_wrong] [s_9] σ σ_2 := FC_le flσ_2 (by first | decide | (rcases hE with rfl | rfl | rfl <;> decide)) (by simp)
  have hkσ_2 : (σ_2 kW_shape 0).toNat = s_9 := by rw [FC_at frσ_2 (c := kW_shape) (by decide)]; exact hkσ
  try rw [hkσ_2]
  have c4 := ii_kW_at hσ 0
  have c5 := ii_kW_at hσ_2 0
  try simp (disch := omega) only [w32_of, w64_of, w8_of] at hsk
  have c6 := ii_kW_length hσ 0
  try simp (disch := omega) only [w32_of, w64_of, w8_of] at g3
  refine wp_ck (by first | assumption | decide | omega) ?_
  refine wp_bd (v_addShape (σ := σ_2) (this_0 := s_9) (kind_0 := kind_0) (parts_0 := 0) hσ_2 (by first | assumption | decide | omega)) ?_
  rintro ⟨x_6, σ_5⟩ - y7
  try dsimp only at y7 ⊢
  obtain ⟨hσ_5, flσ_5, ha1, ha2, ha3, ha4, ha5, ha6⟩ := y7
  have frσ_5 : FC [kW_at, kW_collections, kW_depth, kW_levelCounter, kW_levelKind, kW_number, kW_place, kW_wrong] [s_9] σ σ_5 := FC_tr frσ_2 flσ_5 (by first | decide | (rcases hE with rfl | rfl | rfl <;> decide)) (by first | decide | (rcases hE with rfl | rfl | rfl <;> decide)) (by simp) (by simp)
  have hkσ_5 : (σ_5 kW_shape 0).toNat = s_9 := by rw [FC_at frσ_5 (c := kW_shape) (by decide)]; exact hkσ
  try rw [hkσ_5]
  have c8 := iiA_plans (s := s_9) hσ_2 (by first | assumption | decide | omega) 0
  have c9 := congrFun (FC_plans (t := s_9) flσ_2 (by first | assumption | decide | omega) (NS_0 _)) 0
  try simp (disch := omega) only [w32_of, w64_of, w8_of] at ha1
  try simp (disch := omega) only [w32_of, w64_of, w8_of] at ha2
  have c10 := iiA_plans (s := s_9) hσ_5 (by first | assumption | decide | omega) 0
  try simp (disch := omega) only [w32_of, w64_of, w8_of] at ha3
  try simp (disch := omega) only [w32_of, w64_of, w8_of] at ha4
  try simp (disch := omega) only [w32_of, w64_of, w8_of] at ha5
  try simp (disch := omega) only [w32_of, w64_of, w8_of] at ha6
  refine wp_if (fun c11 => ?_) (fun c11 => ?_)
  · have k12 := ha1.mp c11
    try simp (disch := omega) only [w32_of, w64_of, w8_of] at k12
    have k14 := ha3 c11
    try simp (disch := omega) only [w32_of, w64_of, w8_of] at k14
    try simp (disch := omega) only [w32_of, w64_of, w8_of, decide_eq_true_eq, decide_eq_false_iff_not, Bool.not_eq_true] at c11
    have w2 : WOs σ_2 s_9 (σ_2 (kA_plans s_9) 0) (σ_2 (kA_points s_9) 0) := by rw [FC_plans flσ_2 hs_s_9 (NS_0 _), FC_points flσ_2 hs_s_9 (NS_0 _)]; exact WOs_cg w0 (LVw_f flσ_2 (by decide)) (fun i _ => by rw [FC_plan flσ_2 hs_s_9 (NS_0 _)])
    have wn := WNs_add w2 ⟨by omega, by omega⟩ flσ_5 (ha3 (by assumption)) ha4
    have c16 := w32_rng kind_0
    refine wp_if (fun c15 => ?_) (fun c15 => ?_)
    · try simp (disch := omega) only [w32_of, w64_of, w8_of, decide_eq_true_eq, decide_eq_false_iff_not, Bool.not_eq_true] at c15
      have c17 := ii_kW_at hσ_5 0
      have c18 := FC_at flσ_5 (c := kW_at) (by first | decide | (rcases hE with rfl | rfl | rfl <;> decide)) 0
      refine wp_bd (v_signAt (σ := σ_5) (i_0 := (σ_5 kW_at 0)) hσ_5) ?_
      rintro x_20 - ⟨hsg, g19⟩
      try simp (disch := omega) only [w32_of, w64_of, w8_of] at hsg
      try simp (disch := omega) only [w32_of, w64_of, w8_of] at g19
      refine wp_if (fun c20 => ?_) (fun c20 => ?_)
      · try simp (disch := omega) only [w32_of, w64_of, w8_of, decide_eq_true_eq, decide_eq_false_iff_not, Bool.not_eq_true, fW_beginsNumber] at c20
        refine wp_ck (by first | assumption | decide | omega) ?_
        refine wp_ck (by first | assumption | decide | omega) ?_
        have c21 := w32_rng ((σ_5 (kA_plans s_9) 0) - 1)
        refine wp_waN hσ_5 (bA_plan (s := s_9) (by first | assumption | decide | omega)) (by (try dsimp only) <;> first | assumption | omega | ((try simp (disch := omega) only [w32_of, w64_of, w8_of]) <;> first | assumption | omega | (split <;> omega) | (refine And.intro ?_ ?_ <;> split <;> omega)) | omega) (by (try dsimp only) <;> first | assumption | omega | ((try simp (disch := omega) only [w32_of, w64_of, w8_of]) <;> first | assumption | omega | (split <;> omega) | (refine And.intro ?_ ?_ <;> split <;> omega)) | omega) (fun σ_24 hσ_24 eσ_24 => ?_)
        try simp (disch := omega) only [w32_of, w64_of, w8_of] at eσ_24
        have flσ_24 := FS_plan eσ_24 (by first | assumption | decide | omega)
        have frσ_24 : FC [kW_at, kW_collections, kW_depth, kW_levelCounter, kW_levelKind, kW_number, kW_place, kW_wrong] [s_9] σ σ_24 := FC_tr frσ_5 flσ_24 (by first | decide | (rcases hE with rfl | rfl | rfl <;> decide)) (by first | decide | (rcases hE with rfl | rfl | rfl <;> decide)) (by simp) (by simp)
        have hkσ_24 : (σ_24 kW_shape 0).toNat = s_9 := by rw [FC_at frσ_24 (c := kW_shape) (by decide)]; exact hkσ
        try rw [hkσ_24]
        have c22 := ii_kW_shape hσ_24 0
        have c23 := FC_at flσ_24 (c := kW_shape) (by first | decide | (rcases hE with rfl | rfl | rfl <;> decide)) 0
        have c24 := ii_kW_shape hσ_5 0
        have c25 := FC_at flσ_5 (c := kW_shape) (by first | decide | (rcases hE with rfl | rfl | rfl <;> decide)) 0
        have c26 := ii_kW_shape hσ_2 0
        have c27 := FC_at flσ_2 (c := kW_shape) (by first | decide | (rcases hE with rfl | rfl | rfl <;> decide)) 0
        have c28 := ii_kW_shape hσ 0
        refine wp_bd (s_W_readCoordinate (σ := σ_24) hσ_24 (by first | assumption | decide | omega) (by (try dsimp only) <;> first | assumption | omega | ((try simp (disch := omega) only [w32_of, w64_of, w8_of]) <;> first | assumption | omega | (split <;> omega) | (refine And.intro ?_ ?_ <;> split <;> omega)) | omega)) ?_
        rintro ⟨x_28, σ_27⟩ - y29
        try dsimp only at y29 ⊢
        obtain ⟨hσ_27, flσ_27, hrc, hrd⟩ := y29
        have frσ_27 : FC [kW_at, kW_collections, kW_depth, kW_levelCounter, kW_levelKind, kW_number, kW_place, kW_wrong] [s_9] σ σ_27 := FC_tr frσ_24 flσ_27 (by first | decide | (rcases hE with rfl | rfl | rfl <;> decide)) (by first | decide | (rcases hE with rfl | rfl | rfl <;> decide)) (by simp) (by simp)
        have hkσ_27 : (σ_27 kW_shape 0).toNat = s_9 := by rw [FC_at frσ_27 (c := kW_shape) (by decide)]; exact hkσ
        try rw [hkσ_27]
        have c30 := iiA_points (s := s_9) hσ_27 (by first | assumption | decide | omega) 0
        have c31 := iiA_points (s := s_9) hσ_24 (by first | assumption | decide | omega) 0
        have c32 := (congrFun (congrFun eσ_24 (kA_points s_9)) 0).trans (sg_nc (ncA_points_plan _))
        have c33 := iiA_points (s := s_9) hσ_5 (by first | assumption | decide | omega) 0
        try simp (disch := omega) only [w32_of, w64_of, w8_of] at hrc
        have c34 := ii_kW_at hσ_24 0
        have c35 := FC_at flσ_24 (c := kW_at) (by first | decide | (rcases hE with rfl | rfl | rfl <;> decide)) 0
        have c36 := ii_kW_at hσ_27 0
        have c37 := ii_kW_length hσ_24 0
        have c38 := FC_at flσ_24 (c := kW_length) (by first | decide | (rcases hE with rfl | rfl | rfl <;> decide)) 0
        have c39 := ii_kW_length hσ_5 0
        have c40 := FC_at flσ_5 (c := kW_length) (by first | decide | (rcases hE with rfl | rfl | rfl <;> decide)) 0
        have c41 := ii_kW_length hσ_2 0
        have c42 := FC_at flσ_2 (c := kW_length) (by first | decide | (rcases hE with rfl | rfl | rfl <;> decide)) 0
        try simp (disch := omega) only [w32_of, w64_of, w8_of] at hrd
        exact wp_some ⟨hσ_27, frσ_27, (by (try dsimp only) <;> (intro q9; first | (rw [hfl] at q9; exact absurd q9 (by decide)) | (rw [hun] at q9; exact absurd q9 (by decide)) | exact hre q9 | exact WNs_one (by rw [show kind_0 = 1 by omega] at wn; exact wn) (LVw_tr (LVw_f flσ_24 (by decide)) (LVw_f flσ_27 (by decide))) eσ_24 ⟨(hrc q9).2.1, (hrc q9).2.2⟩ (hrc q9).1)), (by (try dsimp only) <;> (intro q9; first | (rw [hfl] at q9; exact absurd q9 (by decide)) | (rw [hun] at q9; exact absurd q9 (by decide)) | (have q8 := hra q9; omega) | (have q8 := hrd q9; omega)))⟩
      · try simp (disch := omega) only [w32_of, w64_of, w8_of, decide_eq_true_eq, decide_eq_false_iff_not, Bool.not_eq_true, fW_beginsNumber] at c20
        have c43 := ii_kW_shape hσ_5 0
        have c44 := FC_at flσ_5 (c := kW_shape) (by first | decide | (rcases hE with rfl | rfl | rfl <;> decide)) 0
        have c45 := ii_kW_shape hσ_2 0
        have c46 := FC_at flσ_2 (c := kW_shape) (by first | decide | (rcases hE with rfl | rfl | rfl <;> decide)) 0
        have c47 := ii_kW_shape hσ 0
        refine wp_bd (s_W_readEmptyOrBracket (σ := σ_5) (kind_0 := kind_0) hσ_5 (by (try dsimp only) <;> first | assumption | omega | ((try simp (disch := omega) only [w32_of, w64_of, w8_of]) <;> first | assumption | omega | (split <;> omega) | (refine And.intro ?_ ?_ <;> split <;> omega)) | omega) (by first | assumption | decide | omega) (by (try dsimp only) <;> first | assumption | omega | ((try simp (disch := omega) only [w32_of, w64_of, w8_of]) <;> first | assumption | omega | (split <;> omega) | (refine And.intro ?_ ?_ <;> split <;> omega)) | omega) (by (try dsimp only) <;> first | assumption | omega | ((try simp (disch := omega) only [w32_of, w64_of, w8_of]) <;> first | assumption | omega | (split <;> omega) | (refine And.intro ?_ ?_ <;> split <;> omega)) | omega) (by (try dsimp only) <;> first | assumption | omega | ((try simp (disch := omega) only [w32_of, w64_of, w8_of]) <;> first | assumption | omega | (split <;> omega) | (refine And.intro ?_ ?_ <;> split <;> omega)) | omega)) ?_
        rintro ⟨x_31, σ_30⟩ - y48
        try dsimp only at y48 ⊢
        obtain ⟨hσ_30, flσ_30, hre, hra⟩ := y48
        have frσ_30 : FC [kW_at, kW_collections, kW_depth, kW_levelCounter, kW_levelKind, kW_number, kW_place, kW_wrong] [s_9] σ σ_30 := FC_tr frσ_5 flσ_30 (by first | decide | (rcases hE with rfl | rfl | rfl <;> decide)) (by first | decide | (rcases hE with rfl | rfl | rfl <;> decide)) (by simp) (by simp)
        have hkσ_30 : (σ_30 kW_shape 0).toNat = s_9 := by rw [FC_at frσ_30 (c := kW_shape) (by decide)]; exact hkσ
        try rw [hkσ_30]
        try simp (disch := omega) only [w32_of, w64_of, w8_of] at hre
        have c49 := ii_kW_at hσ_30 0
        have c50 := ii_kW_length hσ_5 0
        have c51 := FC_at flσ_5 (c := kW_length) (by first | decide | (rcases hE with rfl | rfl | rfl <;> decide)) 0
        have c52 := ii_kW_length hσ_2 0
        have c53 := FC_at flσ_2 (c := kW_length) (by first | decide | (rcases hE with rfl | rfl | rfl <;> decide)) 0
        try simp (disch := omega) only [w32_of, w64_of, w8_of] at hra
        exact wp_some ⟨hσ_30, frσ_30, (by (try dsimp only) <;> (intro q9; first | (rw [hfl] at q9; exact absurd q9 (by decide)) | (rw [hun] at q9; exact absurd q9 (by decide)) | exact hre q9 | exact WNs_one (by rw [show kind_0 = 1 by omega] at wn; exact wn) (LVw_tr (LVw_f flσ_24 (by decide)) (LVw_f flσ_27 (by decide))) eσ_24 ⟨(hrc q9).2.1, (hrc q9).2.2⟩ (hrc q9).1)), (by (try dsimp only) <;> (intro q9; first | (rw [hfl] at q9; exact absurd q9 (by decide)) | (rw [hun] at q9; exact absurd q9 (by decide)) | (have q8 := hra q9; omega) | (have q8 := hrd q9; omega)))⟩
    · try simp (disch := omega) only [w32_of, w64_of, w8_of, decide_eq_true_eq, decide_eq_false_iff_not, Bool.not_eq_true] at c15
      have c54 := ii_kW_shape hσ_5 0
      have c55 := FC_at flσ_5 (c := kW_shape) (by first | decide | (rcases hE with rfl | rfl | rfl <;> decide)) 0
      have c56 := ii_kW_shape hσ_2 0
      have c57 := FC_at flσ_2 (c := kW_shape) (by first | decide | (rcases hE with rfl | rfl | rfl <;> decide)) 0
      have c58 := ii_kW_shape hσ 0
      refine wp_bd (s_W_readEmptyOrBracket (σ := σ_5) (kind_0 := kind_0) hσ_5 (by (try dsimp only) <;> first | assumption | omega | ((try simp (disch := omega) only [w32_of, w64_of, w8_of]) <;> first | assumption | omega | (split <;> omega) | (refine And.intro ?_ ?_ <;> split <;> omega)) | omega) (by first | assumption | decide | omega) (by (try dsimp only) <;> first | assumption | omega | ((try simp (disch := omega) only [w32_of, w64_of, w8_of]) <;> first | assumption | omega | (split <;> omega) | (refine And.intro ?_ ?_ <;> split <;> omega)) | omega) (by (try dsimp only) <;> first | assumption | omega | ((try simp (disch := omega) only [w32_of, w64_of, w8_of]) <;> first | assumption | omega | (split <;> omega) | (refine And.intro ?_ ?_ <;> split <;> omega)) | omega) (by (try dsimp only) <;> first | assumption | omega | ((try simp (disch := omega) only [w32_of, w64_of, w8_of]) <;> first | assumption | omega | (split <;> omega) | (refine And.intro ?_ ?_ <;> split <;> omega)) | omega)) ?_
      rintro ⟨x_34, σ_33⟩ - y59
      try dsimp only at y59 ⊢
      obtain ⟨hσ_33, flσ_33, hre, hra⟩ := y59
      have frσ_33 : FC [kW_at, kW_collections, kW_depth, kW_levelCounter, kW_levelKind, kW_number, kW_place, kW_wrong] [s_9] σ σ_33 := FC_tr frσ_5 flσ_33 (by first | decide | (rcases hE with rfl | rfl | rfl <;> decide)) (by first | decide | (rcases hE with rfl | rfl | rfl <;> decide)) (by simp) (by simp)
      have hkσ_33 : (σ_33 kW_shape 0).toNat = s_9 := by rw [FC_at frσ_33 (c := kW_shape) (by decide)]; exact hkσ
      try rw [hkσ_33]
      try simp (disch := omega) only [w32_of, w64_of, w8_of] at hre
      have c60 := ii_kW_at hσ_5 0
      have c61 := FC_at flσ_5 (c := kW_at) (by first | decide | (rcases hE with rfl | rfl | rfl <;> decide)) 0
      have c62 := ii_kW_at hσ_33 0
      have c63 := ii_kW_length hσ_5 0
      have c64 := FC_at flσ_5 (c := kW_length) (by first | decide | (rcases hE with rfl | rfl | rfl <;> decide)) 0
      have c65 := ii_kW_length hσ_2 0
      have c66 := FC_at flσ_2 (c := kW_length) (by first | decide | (rcases hE with rfl | rfl | rfl <;> decide)) 0
      try simp (disch := omega) only [w32_of, w64_of, w8_of] at hra
      exact wp_some ⟨hσ_33, frσ_33, (by (try dsimp only) <;> (intro q9; first | (rw [hfl] at q9; exact absurd q9 (by decide)) | (rw [hun] at q9; exact absurd q9 (by decide)) | exact hre q9 | exact WNs_one (by rw [show kind_0 = 1 by omega] at wn; exact wn) (LVw_tr (LVw_f flσ_24 (by decide)) (LVw_f flσ_27 (by decide))) eσ_24 ⟨(hrc q9).2.1, (hrc q9).2.2⟩ (hrc q9).1)), (by (try dsimp only) <;> (intro q9; first | (rw [hfl] at q9; exact absurd q9 (by decide)) | (rw [hun] at q9; exact absurd q9 (by decide)) | (have q8 := hra q9; omega) | (have q8 := hrd q9; omega)))⟩
  · have k67 := fun q => c11 (ha1.mpr q)
    try simp (disch := omega) only [w32_of, w64_of, w8_of] at k67
    have k68 := ha2 (Bool.eq_false_iff.mpr c11)
    try simp (disch := omega) only [w32_of, w64_of, w8_of] at k68
    try simp (disch := omega) only [w32_of, w64_of, w8_of, decide_eq_true_eq, decide_eq_false_iff_not, Bool.not_eq_true] at c11
    refine wp_bd (v_failW (σ := σ_5) (code_0 := 7) hσ_5 (by (try dsimp only) <;> first | assumption | omega | ((try simp (disch := omega) only [w32_of, w64_of, w8_of]) <;> first | assumption | omega | (split <;> omega) | (refine And.intro ?_ ?_ <;> split <;> omega)) | omega)) ?_
    rintro ⟨x_37, σ_36⟩ - y70
    try dsimp only at y70 ⊢
    obtain ⟨hσ_36, flσ_36, hfl⟩ := y70
    have frσ_36 : FC [kW_at, kW_collections, kW_depth, kW_levelCounter, kW_levelKind, kW_number, kW_place, kW_wrong] [s_9] σ σ_36 := FC_tr frσ_5 flσ_36 (by first | decide | (rcases hE with rfl | rfl | rfl <;> decide)) (by first | decide | (rcases hE with rfl | rfl | rfl <;> decide)) (by simp) (by simp)
    have hkσ_36 : (σ_36 kW_shape 0).toNat = s_9 := by rw [FC_at frσ_36 (c := kW_shape) (by decide)]; exact hkσ
    try rw [hkσ_36]
    try simp (disch := omega) only [w32_of, w64_of, w8_of] at hfl
    have c71 := ii_kW_at hσ_36 0
    have c72 := FC_at flσ_36 (c := kW_at) (by first | decide | (rcases hE with rfl | rfl | rfl <;> decide)) 0
    have c73 := ii_kW_at hσ_5 0
    have c74 := FC_at flσ_5 (c := kW_at) (by first | decide | (rcases hE with rfl | rfl | rfl <;> decide)) 0
    exact wp_some ⟨hσ_36, frσ_36, (fun q => absurd (q.symm.trans hfl) (by decide)), (fun q => absurd (q.symm.trans hfl) (by decide))⟩
theorem s_W_readRing {σ : SG} {s_9 : Nat} (hσ : II σ) (hs_s_9 : isS s_9) (hkσ : (σ kW_shape 0).toNat = s_9) (w0 : WGs σ s_9) : wp_ (fW_readRing σ) (fun zz_ => II zz_.2 ∧ FC [kW_at, kW_collections, kW_depth, kW_levelCounter, kW_levelKind, kW_place, kW_wrong] [s_9] σ zz_.2 ∧ ((zz_.1 = true) → (WIs zz_.2 s_9)) ∧ ((zz_.1 = true) → (σ kW_at 0 < zz_.2 kW_at 0 ∧ zz_.2 kW_at 0 ≤ σ kW_length 0))) := by
  unfold fW_readRing
  have hln := ii_kW_length hσ 0
  have hpl := iiA_plans hσ hs_s_9 0
  have hat0 := ii_kW_at hσ 0
  try rw [hkσ]
  refine wp_bd (s_W_skipBlanks (σ := σ) hσ) ?_
  rintro σ_2 - ⟨hσ_2, flσ_2, hsk, g1⟩
  have frσ_2 : FC [kW_at, kW_collections, kW_depth, kW_levelCounter, kW_levelKind, kW_place, kW_wrong] [s_9] σ σ_2 := FC_le flσ_2 (by first | decide | (rcases hE with rfl | rfl | rfl <;> decide)) (by simp)
  have hkσ_2 : (σ_2 kW_shape 0).toNat = s_9 := by rw [FC_at frσ_2 (c := kW_shape) (by decide)]; exact hkσ
  try rw [hkσ_2]
  have c2 := ii_kW_at hσ 0
  have c3 := ii_kW_at hσ_2 0
  try simp (disch := omega) only [w32_of, w64_of, w8_of] at hsk
  have c4 := ii_kW_length hσ 0
  try simp (disch := omega) only [w32_of, w64_of, w8_of] at g1
  refine wp_ck (by first | assumption | decide | omega) ?_
  refine wp_bd (v_addRing (σ := σ_2) (this_0 := s_9) (length_0 := 0) hσ_2 (by first | assumption | decide | omega)) ?_
  rintro ⟨x_6, σ_5⟩ - y5
  try dsimp only at y5 ⊢
  obtain ⟨hσ_5, flσ_5, ha1, ha2, ha3, ha4, ha5, ha6⟩ := y5
  have frσ_5 : FC [kW_at, kW_collections, kW_depth, kW_levelCounter, kW_levelKind, kW_place, kW_wrong] [s_9] σ σ_5 := FC_tr frσ_2 flσ_5 (by first | decide | (rcases hE with rfl | rfl | rfl <;> decide)) (by first | decide | (rcases hE with rfl | rfl | rfl <;> decide)) (by simp) (by simp)
  have hkσ_5 : (σ_5 kW_shape 0).toNat = s_9 := by rw [FC_at frσ_5 (c := kW_shape) (by decide)]; exact hkσ
  try rw [hkσ_5]
  have c6 := iiA_plans (s := s_9) hσ_2 (by first | assumption | decide | omega) 0
  have c7 := congrFun (FC_plans (t := s_9) flσ_2 (by first | assumption | decide | omega) (NS_0 _)) 0
  have c8 := iiA_plans (s := s_9) hσ (by first | assumption | decide | omega) 0
  try simp (disch := omega) only [w32_of, w64_of, w8_of] at ha1
  try simp (disch := omega) only [w32_of, w64_of, w8_of] at ha2
  have c9 := iiA_plans (s := s_9) hσ_5 (by first | assumption | decide | omega) 0
  try simp (disch := omega) only [w32_of, w64_of, w8_of] at ha3
  try simp (disch := omega) only [w32_of, w64_of, w8_of] at ha4
  try simp (disch := omega) only [w32_of, w64_of, w8_of] at ha5
  try simp (disch := omega) only [w32_of, w64_of, w8_of] at ha6
  refine wp_if (fun c10 => ?_) (fun c10 => ?_)
  · have k11 := ha1.mp c10
    try simp (disch := omega) only [w32_of, w64_of, w8_of] at k11
    have k13 := ha3 c10
    try simp (disch := omega) only [w32_of, w64_of, w8_of] at k13
    try simp (disch := omega) only [w32_of, w64_of, w8_of, decide_eq_true_eq, decide_eq_false_iff_not, Bool.not_eq_true] at c10
    have hw2 := WGs_f w0 flσ_2 hs_s_9 (by decide)
    have ha31 := (ha3 (by assumption)).1
    refine wp_bd (P := fun rr_ => II rr_.2 ∧ FC [kW_at, kW_collections, kW_depth, kW_levelCounter, kW_levelKind, kW_place, kW_wrong] [s_9] σ rr_.2 ∧ ((rr_.1 = true) → (WIs rr_.2 s_9)) ∧ ((rr_.1 = true) → (σ kW_at 0 < rr_.2 kW_at 0 ∧ rr_.2 kW_at 0 ≤ σ kW_length 0))) ?_ ?_
    · have c14 := ii_kW_at hσ_5 0
      have c15 := FC_at flσ_5 (c := kW_at) (by first | decide | (rcases hE with rfl | rfl | rfl <;> decide)) 0
      refine wp_bd (v_signAt (σ := σ_5) (i_0 := (σ_5 kW_at 0)) hσ_5) ?_
      rintro x_9 - ⟨s9, t9⟩
      try simp (disch := omega) only [w32_of, w64_of, w8_of] at s9
      try simp (disch := omega) only [w32_of, w64_of, w8_of] at t9
      have hat5 := ii_kW_at hσ_5 0
      have hl5 := ii_kW_length hσ_5 0
      have hl5b : σ_5 kW_length 0 = σ kW_length 0 := by rw [FC_at flσ_5 (c := kW_length) (by decide), FC_at flσ_2 (c := kW_length) (by decide)]
      have ha5b : σ_5 kW_at 0 = σ_2 kW_at 0 := by rw [FC_at flσ_5 (c := kW_at) (by decide)]
      have i9 : 0 ≤ x_9 → σ_5 kW_at 0 < σ_5 kW_length 0 := fun q => by rw [s9] at q; have := sgA_in hσ_5 q; rw [w32_of (by omega) (by omega)] at this; exact this.2
      have c17 := w32_rng x_9
      refine wp_if (fun c16 => ?_) (fun c16 => ?_)
      · try simp (disch := omega) only [w32_of, w64_of, w8_of, decide_eq_true_eq, decide_eq_false_iff_not, Bool.not_eq_true] at c16
        have c18 := ii_kW_shape hσ_5 0
        have c19 := FC_at flσ_5 (c := kW_shape) (by first | decide | (rcases hE with rfl | rfl | rfl <;> decide)) 0
        have c20 := ii_kW_shape hσ_2 0
        have c21 := FC_at flσ_2 (c := kW_shape) (by first | decide | (rcases hE with rfl | rfl | rfl <;> decide)) 0
        have c22 := ii_kW_shape hσ 0
        refine wp_bd (s_W_openLevel (σ := σ_5) (kind_0 := 8) hσ_5 (by first | assumption | decide | omega) (by (try dsimp only) <;> first | assumption | omega | ((try simp (disch := omega) only [w32_of, w64_of, w8_of]) <;> first | assumption | omega | (split <;> omega) | (refine And.intro ?_ ?_ <;> split <;> omega)) | omega) (by (try dsimp only) <;> first | assumption | omega | ((try simp (disch := omega) only [w32_of, w64_of, w8_of]) <;> first | assumption | omega | (split <;> omega) | (refine And.intro ?_ ?_ <;> split <;> omega)) | omega) (by (try dsimp only) <;> first | assumption | omega | ((try simp (disch := omega) only [w32_of, w64_of, w8_of]) <;> first | assumption | omega | (split <;> omega) | (refine And.intro ?_ ?_ <;> split <;> omega)) | omega) (by (try dsimp only) <;> first | assumption | omega | ((try simp (disch := omega) only [w32_of, w64_of, w8_of]) <;> first | assumption | omega | (split <;> omega) | (refine And.intro ?_ ?_ <;> split <;> omega)) | omega)) ?_
        rintro ⟨x_13, σ_12⟩ - y23
        try dsimp only at y23 ⊢
        obtain ⟨hσ_12, flσ_12, hol, hoa⟩ := y23
        have frσ_12 : FC [kW_at, kW_collections, kW_depth, kW_levelCounter, kW_levelKind, kW_place, kW_wrong] [s_9] σ σ_12 := FC_tr frσ_5 flσ_12 (by first | decide | (rcases hE with rfl | rfl | rfl <;> decide)) (by first | decide | (rcases hE with rfl | rfl | rfl <;> decide)) (by simp) (by simp)
        have hkσ_12 : (σ_12 kW_shape 0).toNat = s_9 := by rw [FC_at frσ_12 (c := kW_shape) (by decide)]; exact hkσ
        try rw [hkσ_12]
        try simp (disch := omega) only [w32_of, w64_of, w8_of] at hol
        have c24 := ii_kW_at hσ_12 0
        try simp (disch := omega) only [w32_of, w64_of, w8_of] at hoa
        exact wp_some ⟨hσ_12, frσ_12, (by (try dsimp only) <;> (intro q9; first | (rw [hfl] at q9; exact absurd q9 (by decide)) | (rw [hun] at q9; exact absurd q9 (by decide)) | exact WGs_go hσ_5 hs_s_9 hw2 flσ_5 (ha3 (by assumption)) ha4 flσ_12 (hol q9))), (by (try dsimp only) <;> (intro q9; first | (rw [hfl] at q9; exact absurd q9 (by decide)) | (rw [hun] at q9; exact absurd q9 (by decide)) | (have := hoa q9; omega)))⟩
      · try simp (disch := omega) only [w32_of, w64_of, w8_of, decide_eq_true_eq, decide_eq_false_iff_not, Bool.not_eq_true] at c16
        refine wp_bd (s_W_unexpected (σ := σ_5) hσ_5) ?_
        rintro ⟨x_17, σ_16⟩ - y25
        try dsimp only at y25 ⊢
        obtain ⟨hσ_16, flσ_16, hun⟩ := y25
        have frσ_16 : FC [kW_at, kW_collections, kW_depth, kW_levelCounter, kW_levelKind, kW_place, kW_wrong] [s_9] σ σ_16 := FC_tr frσ_5 flσ_16 (by first | decide | (rcases hE with rfl | rfl | rfl <;> decide)) (by first | decide | (rcases hE with rfl | rfl | rfl <;> decide)) (by simp) (by simp)
        have hkσ_16 : (σ_16 kW_shape 0).toNat = s_9 := by rw [FC_at frσ_16 (c := kW_shape) (by decide)]; exact hkσ
        try rw [hkσ_16]
        try simp (disch := omega) only [w32_of, w64_of, w8_of] at hun
        have c26 := ii_kW_at hσ_16 0
        have c27 := FC_at flσ_16 (c := kW_at) (by first | decide | (rcases hE with rfl | rfl | rfl <;> decide)) 0
        exact wp_some ⟨hσ_16, frσ_16, (fun q => absurd (q.symm.trans hun) (by decide)), (fun q => absurd (q.symm.trans hun) (by decide))⟩
    rintro ⟨x_19, σ_20⟩ _ y28
    try dsimp only at y28 ⊢
    obtain ⟨hσ_20, frσ_20, hz, hz2⟩ := y28
    have hkσ_20 : (σ_20 kW_shape 0).toNat = s_9 := by rw [FC_at frσ_20 (c := kW_shape) (by decide)]; exact hkσ
    try rw [hkσ_20]
    have c29 := ii_kW_at hσ_20 0
    exact wp_some ⟨hσ_20, frσ_20, (by (try dsimp only) <;> (intro q9; first | (rw [hfl] at q9; exact absurd q9 (by decide)) | (rw [hun] at q9; exact absurd q9 (by decide)) | exact hz q9)), (by (try dsimp only) <;> (intro q9; first | (rw [hfl] at q9; exact absurd q9 (by decide)) | (rw [hun] at q9; exact absurd q9 (by decide)) | exact hz2 q9))⟩
  · have k30 := fun q => c10 (ha1.mpr q)
    try simp (disch := omega) only [w32_of, w64_of, w8_of] at k30
    have k31 := ha2 (Bool.eq_false_iff.mpr c10)
    try simp (disch := omega) only [w32_of, w64_of, w8_of] at k31
    try simp (disch := omega) only [w32_of, w64_of, w8_of, decide_eq_true_eq, decide_eq_false_iff_not, Bool.not_eq_true] at c10
    refine wp_bd (v_failW (σ := σ_5) (code_0 := 7) hσ_5 (by (try dsimp only) <;> first | assumption | omega | ((try simp (disch := omega) only [w32_of, w64_of, w8_of]) <;> first | assumption | omega | (split <;> omega) | (refine And.intro ?_ ?_ <;> split <;> omega)) | omega)) ?_
    rintro ⟨x_27, σ_26⟩ - y33
    try dsimp only at y33 ⊢
    obtain ⟨hσ_26, flσ_26, hfl⟩ := y33
    have frσ_26 : FC [kW_at, kW_collections, kW_depth, kW_levelCounter, kW_levelKind, kW_place, kW_wrong] [s_9] σ σ_26 := FC_tr frσ_5 flσ_26 (by first | decide | (rcases hE with rfl | rfl | rfl <;> decide)) (by first | decide | (rcases hE with rfl | rfl | rfl <;> decide)) (by simp) (by simp)
    have hkσ_26 : (σ_26 kW_shape 0).toNat = s_9 := by rw [FC_at frσ_26 (c := kW_shape) (by decide)]; exact hkσ
    try rw [hkσ_26]
    try simp (disch := omega) only [w32_of, w64_of, w8_of] at hfl
    have c34 := ii_kW_at hσ_26 0
    have c35 := FC_at flσ_26 (c := kW_at) (by first | decide | (rcases hE with rfl | rfl | rfl <;> decide)) 0
    have c36 := ii_kW_at hσ_5 0
    have c37 := FC_at flσ_5 (c := kW_at) (by first | decide | (rcases hE with rfl | rfl | rfl <;> decide)) 0
    exact wp_some ⟨hσ_26, frσ_26, (fun q => absurd (q.symm.trans hfl) (by decide)), (fun q => absurd (q.symm.trans hfl) (by decide))⟩
theorem s_W_kindOfWord {σ : SG} (hσ : II σ) : wp_ (fW_kindOfWord σ) (fun zz_ => (0 ≤ zz_ ∧ zz_ ≤ 7)) := by
  unfold fW_kindOfWord
  refine wp_bx (P := fun rr_ => (True)) ?_ ?_
  · refine wp_whl (fun ss_ => (1 ≤ ss_ ∧ ss_ ≤ 8)) (fun ss_ => (9 - ss_).toNat) (by (try dsimp only) <;> first | assumption | omega | ((try simp (disch := omega) only [w32_of, w64_of, w8_of]) <;> first | assumption | omega | (split <;> omega) | (refine And.intro ?_ ?_ <;> split <;> omega)) | omega) ?_
    rintro kind_1 g1
    have c3 := w32_rng kind_1
    refine wp_if (fun c2 => ?_) (fun c2 => ?_)
    · try simp (disch := omega) only [w32_of, w64_of, w8_of, decide_eq_true_eq, decide_eq_false_iff_not, Bool.not_eq_true] at c2
      have hwf := wordFor_b kind_1
      refine wp_ck (by exact hwf.1) ?_
      refine wp_bd (s_W_isWord (σ := σ) (word_0 := (fO_wordFor kind_1)) hσ (by exact hwf.2)) ?_
      rintro x_12 - hiw
      have c4 := ii_kW_at hσ 0
      try simp (disch := omega) only [w32_of, w64_of, w8_of] at hiw
      refine wp_if (fun c5 => ?_) (fun c5 => ?_)
      · have k6 := hiw c5
        try simp (disch := omega) only [w32_of, w64_of, w8_of] at k6
        try simp (disch := omega) only [w32_of, w64_of, w8_of, decide_eq_true_eq, decide_eq_false_iff_not, Bool.not_eq_true] at c5
        exact wp_some (x_inr (x_inr (by (try dsimp only) <;> first | assumption | omega | ((try simp (disch := omega) only [w32_of, w64_of, w8_of]) <;> first | assumption | omega | (split <;> omega) | (refine And.intro ?_ ?_ <;> split <;> omega)) | omega)))
      · try simp (disch := omega) only [w32_of, w64_of, w8_of, decide_eq_true_eq, decide_eq_false_iff_not, Bool.not_eq_true] at c5
        exact wp_some (x_inl ⟨(by (try dsimp only) <;> first | assumption | omega | ((try simp (disch := omega) only [w32_of, w64_of, w8_of]) <;> first | assumption | omega | (split <;> omega) | (refine And.intro ?_ ?_ <;> split <;> omega)) | omega), (by (try dsimp only) <;> first | assumption | omega | ((try simp (disch := omega) only [w32_of, w64_of, w8_of]) <;> first | assumption | omega | (split <;> omega) | (refine And.intro ?_ ?_ <;> split <;> omega)) | omega)⟩)
    · try simp (disch := omega) only [w32_of, w64_of, w8_of, decide_eq_true_eq, decide_eq_false_iff_not, Bool.not_eq_true] at c2
      exact wp_some (x_inr (x_inl (by (try dsimp only) <;> first | assumption | omega | ((try simp (disch := omega) only [w32_of, w64_of, w8_of]) <;> first | assumption | omega | (split <;> omega) | (refine And.intro ?_ ?_ <;> split <;> omega)) | omega)))
  rintro kind_16 g8
  exact wp_some (by (try dsimp only) <;> first | assumption | omega | ((try simp (disch := omega) only [w32_of, w64_of, w8_of]) <;> first | assumption | omega | (split <;> omega) | (refine And.intro ?_ ?_ <;> split <;> omega)) | omega)
theorem s_W_readShape {σ : SG} {s_9 : Nat} (hσ : II σ) (hs_s_9 : isS s_9) (hkσ : (σ kW_shape 0).toNat = s_9) (w0 : WOs σ s_9 (σ (kA_plans s_9) 0) (σ (kA_points s_9) 0)) : wp_ (fW_readShape σ) (fun zz_ => II zz_.2 ∧ FC [kW_at, kW_collections, kW_depth, kW_levelCounter, kW_levelKind, kW_place, kW_wrong] [s_9] σ zz_.2 ∧ ((zz_.1 = true) → (WIs zz_.2 s_9)) ∧ ((zz_.1 = true) → (σ kW_at 0 < zz_.2 kW_at 0 ∧ zz_.2 kW_at 0 ≤ σ kW_length 0))) := by
  unfold fW_readShape
  have c1 := iiA_plans (s := s_9) hσ (by first | assumption | decide | omega) 0
  have c2 := iiA_points (s := s_9) hσ (by first | assumption | decide | omega) 0
  have hln := ii_kW_length hσ 0
  have hpl := iiA_plans hσ hs_s_9 0
  have hat0 := ii_kW_at hσ 0
  try rw [hkσ]
  refine wp_bd (s_W_skipBlanks (σ := σ) hσ) ?_
  rintro σ_2 - ⟨hσ_2, flσ_2, hsk, g3⟩
  have frσ_2 : FC [kW_at, kW_collections, kW_depth, kW_levelCounter, kW_levelKind, kW_place, kW_wrong] [s_9] σ σ_2 := FC_le flσ_2 (by first | decide | (rcases hE with rfl | rfl | rfl <;> decide)) (by simp)
  have hkσ_2 : (σ_2 kW_shape 0).toNat = s_9 := by rw [FC_at frσ_2 (c := kW_shape) (by decide)]; exact hkσ
  try rw [hkσ_2]
  have c4 := ii_kW_at hσ 0
  have c5 := ii_kW_at hσ_2 0
  try simp (disch := omega) only [w32_of, w64_of, w8_of] at hsk
  have c6 := ii_kW_length hσ 0
  try simp (disch := omega) only [w32_of, w64_of, w8_of] at g3
  refine wp_bd (v_signAt (σ := σ_2) (i_0 := (σ_2 kW_at 0)) hσ_2) ?_
  rintro x_4 - ⟨s4, t4⟩
  try simp (disch := omega) only [w32_of, w64_of, w8_of] at s4
  try simp (disch := omega) only [w32_of, w64_of, w8_of] at t4
  have hat2 := ii_kW_at hσ_2 0
  have i4 : 0 ≤ x_4 → σ_2 kW_at 0 < σ_2 kW_length 0 := fun q => by rw [s4] at q; have := sgA_in hσ_2 q; rw [w32_of (by omega) (by omega)] at this; exact this.2
  refine wp_if (fun c7 => ?_) (fun c7 => ?_)
  · try simp (disch := omega) only [w32_of, w64_of, w8_of, decide_eq_true_eq, decide_eq_false_iff_not, Bool.not_eq_true, fW_isLetter] at c7
    have hb4 : 0 ≤ x_4 := by omega
    have i4b := i4 hb4
    refine wp_bd (s_W_kindOfWord (σ := σ_2) hσ_2) ?_
    rintro x_7 - hkw
    try simp (disch := omega) only [w32_of, w64_of, w8_of] at hkw
    have c9 := w32_rng x_7
    refine wp_if (fun c8 => ?_) (fun c8 => ?_)
    · try simp (disch := omega) only [w32_of, w64_of, w8_of, decide_eq_true_eq, decide_eq_false_iff_not, Bool.not_eq_true] at c8
      refine wp_bd (v_failW (σ := σ_2) (code_0 := 2) hσ_2 (by (try dsimp only) <;> first | assumption | omega | ((try simp (disch := omega) only [w32_of, w64_of, w8_of]) <;> first | assumption | omega | (split <;> omega) | (refine And.intro ?_ ?_ <;> split <;> omega)) | omega)) ?_
      rintro ⟨x_11, σ_10⟩ - y10
      try dsimp only at y10 ⊢
      obtain ⟨hσ_10, flσ_10, hfl⟩ := y10
      have frσ_10 : FC [kW_at, kW_collections, kW_depth, kW_levelCounter, kW_levelKind, kW_place, kW_wrong] [s_9] σ σ_10 := FC_tr frσ_2 flσ_10 (by first | decide | (rcases hE with rfl | rfl | rfl <;> decide)) (by first | decide | (rcases hE with rfl | rfl | rfl <;> decide)) (by simp) (by simp)
      have hkσ_10 : (σ_10 kW_shape 0).toNat = s_9 := by rw [FC_at frσ_10 (c := kW_shape) (by decide)]; exact hkσ
      try rw [hkσ_10]
      try simp (disch := omega) only [w32_of, w64_of, w8_of] at hfl
      have c11 := ii_kW_at hσ_10 0
      have c12 := FC_at flσ_10 (c := kW_at) (by first | decide | (rcases hE with rfl | rfl | rfl <;> decide)) 0
      exact wp_some ⟨hσ_10, frσ_10, (fun q => absurd (q.symm.trans hfl) (by decide)), (fun q => absurd (q.symm.trans hfl) (by decide))⟩
    · try simp (disch := omega) only [w32_of, w64_of, w8_of, decide_eq_true_eq, decide_eq_false_iff_not, Bool.not_eq_true] at c8
      have c14 := FC_at flσ_2 (c := kW_collections) (by first | decide | (rcases hE with rfl | rfl | rfl <;> decide)) 0
      have c15 := w32_rng (σ_2 kW_collections 0)
      refine wp_if (fun c13 => ?_) (fun c13 => ?_)
      · try simp (disch := omega) only [w32_of, w64_of, w8_of, decide_eq_true_eq, decide_eq_false_iff_not, Bool.not_eq_true] at c13
        refine wp_bd (v_failW (σ := σ_2) (code_0 := 6) hσ_2 (by (try dsimp only) <;> first | assumption | omega | ((try simp (disch := omega) only [w32_of, w64_of, w8_of]) <;> first | assumption | omega | (split <;> omega) | (refine And.intro ?_ ?_ <;> split <;> omega)) | omega)) ?_
        rintro ⟨x_14, σ_13⟩ - y16
        try dsimp only at y16 ⊢
        obtain ⟨hσ_13, flσ_13, hfl⟩ := y16
        have frσ_13 : FC [kW_at, kW_collections, kW_depth, kW_levelCounter, kW_levelKind, kW_place, kW_wrong] [s_9] σ σ_13 := FC_tr frσ_2 flσ_13 (by first | decide | (rcases hE with rfl | rfl | rfl <;> decide)) (by first | decide | (rcases hE with rfl | rfl | rfl <;> decide)) (by simp) (by simp)
        have hkσ_13 : (σ_13 kW_shape 0).toNat = s_9 := by rw [FC_at frσ_13 (c := kW_shape) (by decide)]; exact hkσ
        try rw [hkσ_13]
        try simp (disch := omega) only [w32_of, w64_of, w8_of] at hfl
        have c17 := ii_kW_at hσ_13 0
        have c18 := FC_at flσ_13 (c := kW_at) (by first | decide | (rcases hE with rfl | rfl | rfl <;> decide)) 0
        exact wp_some ⟨hσ_13, frσ_13, (fun q => absurd (q.symm.trans hfl) (by decide)), (fun q => absurd (q.symm.trans hfl) (by decide))⟩
      · try simp (disch := omega) only [w32_of, w64_of, w8_of, decide_eq_true_eq, decide_eq_false_iff_not, Bool.not_eq_true] at c13
        refine wp_bd (v_behindWordE (σ := σ_2) hσ_2) ?_
        rintro x_16 - ⟨hbw, hbx, hby, hbe⟩
        try simp (disch := omega) only [w32_of, w64_of, w8_of] at hbw
        try simp (disch := omega) only [w32_of, w64_of, w8_of] at hbx
        have c19 := ii_kW_length hσ_2 0
        have c20 := FC_at flσ_2 (c := kW_length) (by first | decide | (rcases hE with rfl | rfl | rfl <;> decide)) 0
        try simp (disch := omega) only [w32_of, w64_of, w8_of] at hby
        try simp (disch := omega) only [w32_of, w64_of, w8_of] at hbe
        refine wp_wfI hσ_2 b_kW_at (by (try dsimp only) <;> first | assumption | omega | ((try simp (disch := omega) only [w32_of, w64_of, w8_of]) <;> first | assumption | omega | (split <;> omega) | (refine And.intro ?_ ?_ <;> split <;> omega)) | omega) (fun σ_17 hσ_17 eσ_17 => ?_)
        try simp (disch := omega) only [w32_of, w64_of, w8_of] at eσ_17
        have flσ_17 := FC_sg eσ_17 (by first | decide | (rcases hE with rfl | rfl | rfl <;> decide))
        have frσ_17 : FC [kW_at, kW_collections, kW_depth, kW_levelCounter, kW_levelKind, kW_place, kW_wrong] [s_9] σ σ_17 := FC_tr frσ_2 flσ_17 (by first | decide | (rcases hE with rfl | rfl | rfl <;> decide)) (by first | decide | (rcases hE with rfl | rfl | rfl <;> decide)) (by simp) (by simp)
        have hkσ_17 : (σ_17 kW_shape 0).toNat = s_9 := by rw [FC_at frσ_17 (c := kW_shape) (by decide)]; exact hkσ
        try rw [hkσ_17]
        refine wp_bd (s_W_skipBlanks (σ := σ_17) hσ_17) ?_
        rintro σ_19 - ⟨hσ_19, flσ_19, hsk, hsl⟩
        have frσ_19 : FC [kW_at, kW_collections, kW_depth, kW_levelCounter, kW_levelKind, kW_place, kW_wrong] [s_9] σ σ_19 := FC_tr frσ_17 flσ_19 (by first | decide | (rcases hE with rfl | rfl | rfl <;> decide)) (by first | decide | (rcases hE with rfl | rfl | rfl <;> decide)) (by simp) (by simp)
        have hkσ_19 : (σ_19 kW_shape 0).toNat = s_9 := by rw [FC_at frσ_19 (c := kW_shape) (by decide)]; exact hkσ
        try rw [hkσ_19]
        have c21 := ii_kW_at hσ_17 0
        have c22 := sg_val eσ_17
        have c23 := ii_kW_at hσ_19 0
        try simp (disch := omega) only [w32_of, w64_of, w8_of] at hsk
        have c24 := ii_kW_length hσ_17 0
        have c25 := FC_at flσ_17 (c := kW_length) (by first | decide | (rcases hE with rfl | rfl | rfl <;> decide)) 0
        try simp (disch := omega) only [w32_of, w64_of, w8_of] at hsl
        refine wp_bd (P := fun rr_ => II rr_.2 ∧ FC [kW_at, kW_collections, kW_depth, kW_levelCounter, kW_levelKind, kW_place, kW_wrong] [s_9] σ rr_.2 ∧ ((rr_.1 = true) → (WIs rr_.2 s_9)) ∧ ((rr_.1 = true) → (σ kW_at 0 < rr_.2 kW_at 0 ∧ rr_.2 kW_at 0 ≤ σ kW_length 0))) ?_ ?_
        · refine wp_ck (by first | assumption | decide | omega) ?_
          refine wp_bd (v_addShape (σ := σ_19) (this_0 := s_9) (kind_0 := x_7) (parts_0 := 0) hσ_19 (by first | assumption | decide | omega)) ?_
          rintro ⟨x_23, σ_22⟩ - y26
          try dsimp only at y26 ⊢
          obtain ⟨hσ_22, flσ_22, ha1, ha2, ha3, ha4, ha5, ha6⟩ := y26
          have frσ_22 : FC [kW_at, kW_collections, kW_depth, kW_levelCounter, kW_levelKind, kW_place, kW_wrong] [s_9] σ σ_22 := FC_tr frσ_19 flσ_22 (by first | decide | (rcases hE with rfl | rfl | rfl <;> decide)) (by first | decide | (rcases hE with rfl | rfl | rfl <;> decide)) (by simp) (by simp)
          have hkσ_22 : (σ_22 kW_shape 0).toNat = s_9 := by rw [FC_at frσ_22 (c := kW_shape) (by decide)]; exact hkσ
          try rw [hkσ_22]
          have c27 := iiA_plans (s := s_9) hσ_19 (by first | assumption | decide | omega) 0
          have c28 := congrFun (FC_plans (t := s_9) flσ_19 (by first | assumption | decide | omega) (NS_0 _)) 0
          have c29 := iiA_plans (s := s_9) hσ_17 (by first | assumption | decide | omega) 0
          have c30 := congrFun (FC_plans (t := s_9) flσ_17 (by first | assumption | decide | omega) (NS_0 _)) 0
          have c31 := iiA_plans (s := s_9) hσ_2 (by first | assumption | decide | omega) 0
          have c32 := congrFun (FC_plans (t := s_9) flσ_2 (by first | assumption | decide | omega) (NS_0 _)) 0
          try simp (disch := omega) only [w32_of, w64_of, w8_of] at ha1
          try simp (disch := omega) only [w32_of, w64_of, w8_of] at ha2
          have c33 := iiA_plans (s := s_9) hσ_22 (by first | assumption | decide | omega) 0
          try simp (disch := omega) only [w32_of, w64_of, w8_of] at ha3
          try simp (disch := omega) only [w32_of, w64_of, w8_of] at ha4
          try simp (disch := omega) only [w32_of, w64_of, w8_of] at ha5
          try simp (disch := omega) only [w32_of, w64_of, w8_of] at ha6
          refine wp_if (fun c34 => ?_) (fun c34 => ?_)
          · have k35 := ha1.mp c34
            try simp (disch := omega) only [w32_of, w64_of, w8_of] at k35
            have k37 := ha3 c34
            try simp (disch := omega) only [w32_of, w64_of, w8_of] at k37
            try simp (disch := omega) only [w32_of, w64_of, w8_of, decide_eq_true_eq, decide_eq_false_iff_not, Bool.not_eq_true] at c34
            have f19 := FC_tr (ms := [kW_at]) (ss := []) (FC_tr (ms := [kW_at]) (ss := []) flσ_2 flσ_17 (by decide) (by decide) (by simp) (by simp)) flσ_19 (by decide) (by decide) (by simp) (by simp)
            have w19 : WOs σ_19 s_9 (σ_19 (kA_plans s_9) 0) (σ_19 (kA_points s_9) 0) := by rw [FC_plans f19 hs_s_9 (NS_0 _), FC_points f19 hs_s_9 (NS_0 _)]; exact WOs_cg w0 (LVw_f f19 (by decide)) (fun i _ => by rw [FC_plan f19 hs_s_9 (NS_0 _)])
            have wn := WNs_add w19 ⟨by omega, by omega⟩ flσ_22 (ha3 (by assumption)) ha4
            have ha31 := (ha3 (by assumption)).1
            have c38 := ii_kW_shape hσ_22 0
            have c39 := FC_at flσ_22 (c := kW_shape) (by first | decide | (rcases hE with rfl | rfl | rfl <;> decide)) 0
            have c40 := ii_kW_shape hσ_19 0
            have c41 := FC_at flσ_19 (c := kW_shape) (by first | decide | (rcases hE with rfl | rfl | rfl <;> decide)) 0
            have c42 := ii_kW_shape hσ_17 0
            have c43 := FC_at flσ_17 (c := kW_shape) (by first | decide | (rcases hE with rfl | rfl | rfl <;> decide)) 0
            have c44 := ii_kW_shape hσ_2 0
            have c45 := FC_at flσ_2 (c := kW_shape) (by first | decide | (rcases hE with rfl | rfl | rfl <;> decide)) 0
            have c46 := ii_kW_shape hσ 0
            refine wp_bd (s_W_readEmptyOrBracket (σ := σ_22) (kind_0 := x_7) hσ_22 (by (try dsimp only) <;> first | assumption | omega | ((try simp (disch := omega) only [w32_of, w64_of, w8_of]) <;> first | assumption | omega | (split <;> omega) | (refine And.intro ?_ ?_ <;> split <;> omega)) | omega) (by first | assumption | decide | omega) (by (try dsimp only) <;> first | assumption | omega | ((try simp (disch := omega) only [w32_of, w64_of, w8_of]) <;> first | assumption | omega | (split <;> omega) | (refine And.intro ?_ ?_ <;> split <;> omega)) | omega) (by (try dsimp only) <;> first | assumption | omega | ((try simp (disch := omega) only [w32_of, w64_of, w8_of]) <;> first | assumption | omega | (split <;> omega) | (refine And.intro ?_ ?_ <;> split <;> omega)) | omega) (by (try dsimp only) <;> first | assumption | omega | ((try simp (disch := omega) only [w32_of, w64_of, w8_of]) <;> first | assumption | omega | (split <;> omega) | (refine And.intro ?_ ?_ <;> split <;> omega)) | omega)) ?_
            rintro ⟨x_27, σ_26⟩ - y47
            try dsimp only at y47 ⊢
            obtain ⟨hσ_26, flσ_26, hre, hra⟩ := y47
            have frσ_26 : FC [kW_at, kW_collections, kW_depth, kW_levelCounter, kW_levelKind, kW_place, kW_wrong] [s_9] σ σ_26 := FC_tr frσ_22 flσ_26 (by first | decide | (rcases hE with rfl | rfl | rfl <;> decide)) (by first | decide | (rcases hE with rfl | rfl | rfl <;> decide)) (by simp) (by simp)
            have hkσ_26 : (σ_26 kW_shape 0).toNat = s_9 := by rw [FC_at frσ_26 (c := kW_shape) (by decide)]; exact hkσ
            try rw [hkσ_26]
            try simp (disch := omega) only [w32_of, w64_of, w8_of] at hre
            have c48 := ii_kW_at hσ_22 0
            have c49 := FC_at flσ_22 (c := kW_at) (by first | decide | (rcases hE with rfl | rfl | rfl <;> decide)) 0
            have c50 := ii_kW_at hσ_26 0
            have c51 := ii_kW_length hσ_22 0
            have c52 := FC_at flσ_22 (c := kW_length) (by first | decide | (rcases hE with rfl | rfl | rfl <;> decide)) 0
            have c53 := ii_kW_length hσ_19 0
            have c54 := FC_at flσ_19 (c := kW_length) (by first | decide | (rcases hE with rfl | rfl | rfl <;> decide)) 0
            try simp (disch := omega) only [w32_of, w64_of, w8_of] at hra
            exact wp_some ⟨hσ_26, frσ_26, (by (try dsimp only) <;> (intro q9; first | (rw [hfl] at q9; exact absurd q9 (by decide)) | (rw [hun] at q9; exact absurd q9 (by decide)) | exact hre q9)), (by (try dsimp only) <;> (intro q9; first | (rw [hfl] at q9; exact absurd q9 (by decide)) | (rw [hun] at q9; exact absurd q9 (by decide)) | (have := hra q9; omega)))⟩
          · have k55 := fun q => c34 (ha1.mpr q)
            try simp (disch := omega) only [w32_of, w64_of, w8_of] at k55
            have k56 := ha2 (Bool.eq_false_iff.mpr c34)
            try simp (disch := omega) only [w32_of, w64_of, w8_of] at k56
            try simp (disch := omega) only [w32_of, w64_of, w8_of, decide_eq_true_eq, decide_eq_false_iff_not, Bool.not_eq_true] at c34
            refine wp_bd (v_failW (σ := σ_22) (code_0 := 7) hσ_22 (by (try dsimp only) <;> first | assumption | omega | ((try simp (disch := omega) only [w32_of, w64_of, w8_of]) <;> first | assumption | omega | (split <;> omega) | (refine And.intro ?_ ?_ <;> split <;> omega)) | omega)) ?_
            rintro ⟨x_31, σ_30⟩ - y58
            try dsimp only at y58 ⊢
            obtain ⟨hσ_30, flσ_30, hfl⟩ := y58
            have frσ_30 : FC [kW_at, kW_collections, kW_depth, kW_levelCounter, kW_levelKind, kW_place, kW_wrong] [s_9] σ σ_30 := FC_tr frσ_22 flσ_30 (by first | decide | (rcases hE with rfl | rfl | rfl <;> decide)) (by first | decide | (rcases hE with rfl | rfl | rfl <;> decide)) (by simp) (by simp)
            have hkσ_30 : (σ_30 kW_shape 0).toNat = s_9 := by rw [FC_at frσ_30 (c := kW_shape) (by decide)]; exact hkσ
            try rw [hkσ_30]
            try simp (disch := omega) only [w32_of, w64_of, w8_of] at hfl
            have c59 := ii_kW_at hσ_30 0
            have c60 := FC_at flσ_30 (c := kW_at) (by first | decide | (rcases hE with rfl | rfl | rfl <;> decide)) 0
            have c61 := ii_kW_at hσ_22 0
            have c62 := FC_at flσ_22 (c := kW_at) (by first | decide | (rcases hE with rfl | rfl | rfl <;> decide)) 0
            exact wp_some ⟨hσ_30, frσ_30, (fun q => absurd (q.symm.trans hfl) (by decide)), (fun q => absurd (q.symm.trans hfl) (by decide))⟩
        rintro ⟨x_33, σ_34⟩ _ y63
        try dsimp only at y63 ⊢
        obtain ⟨hσ_34, frσ_34, hz, hz2⟩ := y63
        have hkσ_34 : (σ_34 kW_shape 0).toNat = s_9 := by rw [FC_at frσ_34 (c := kW_shape) (by decide)]; exact hkσ
        try rw [hkσ_34]
        have c64 := ii_kW_at hσ_34 0
        exact wp_some ⟨hσ_34, frσ_34, (by (try dsimp only) <;> (intro q9; first | (rw [hfl] at q9; exact absurd q9 (by decide)) | (rw [hun] at q9; exact absurd q9 (by decide)) | exact hz q9)), (by (try dsimp only) <;> (intro q9; first | (rw [hfl] at q9; exact absurd q9 (by decide)) | (rw [hun] at q9; exact absurd q9 (by decide)) | exact hz2 q9))⟩
  · try simp (disch := omega) only [w32_of, w64_of, w8_of, decide_eq_true_eq, decide_eq_false_iff_not, Bool.not_eq_true, fW_isLetter] at c7
    refine wp_bd (s_W_unexpected (σ := σ_2) hσ_2) ?_
    rintro ⟨x_48, σ_47⟩ - y65
    try dsimp only at y65 ⊢
    obtain ⟨hσ_47, flσ_47, hun⟩ := y65
    have frσ_47 : FC [kW_at, kW_collections, kW_depth, kW_levelCounter, kW_levelKind, kW_place, kW_wrong] [s_9] σ σ_47 := FC_tr frσ_2 flσ_47 (by first | decide | (rcases hE with rfl | rfl | rfl <;> decide)) (by first | decide | (rcases hE with rfl | rfl | rfl <;> decide)) (by simp) (by simp)
    have hkσ_47 : (σ_47 kW_shape 0).toNat = s_9 := by rw [FC_at frσ_47 (c := kW_shape) (by decide)]; exact hkσ
    try rw [hkσ_47]
    try simp (disch := omega) only [w32_of, w64_of, w8_of] at hun
    have c66 := ii_kW_at hσ_47 0
    have c67 := FC_at flσ_47 (c := kW_at) (by first | decide | (rcases hE with rfl | rfl | rfl <;> decide)) 0
    exact wp_some ⟨hσ_47, frσ_47, (fun q => absurd (q.symm.trans hun) (by decide)), (fun q => absurd (q.symm.trans hun) (by decide))⟩
theorem s_W_readItem {σ : SG} {s_9 : Nat} (hσ : II σ) (hs_s_9 : isS s_9) (hkσ : (σ kW_shape 0).toNat = s_9) (w0 : WIs σ s_9) (w1 : 0 < σ kW_depth 0) : wp_ (fW_readItem σ) (fun zz_ => II zz_.2 ∧ FC [kW_at, kW_collections, kW_depth, kW_levelCounter, kW_levelKind, kW_number, kW_place, kW_wrong] [s_9] σ zz_.2 ∧ ((zz_.1 = true) → (WCs zz_.2 s_9 (zz_.2 (kA_points s_9) 0) ∧ (¬ zz_.2 kW_depth 0 = σ kW_depth 0 → WIs zz_.2 s_9))) ∧ ((zz_.1 = true) → (σ kW_at 0 < zz_.2 kW_at 0 ∧ zz_.2 kW_at 0 ≤ σ kW_length 0))) := by
  unfold fW_readItem
  have c1 := ii_kW_depth hσ 0
  have hln := ii_kW_length hσ 0
  have hdp := ii_kW_depth hσ 0
  have hat0 := ii_kW_at hσ 0
  try rw [hkσ]
  have c2 := w32_rng ((σ kW_depth 0) - 1)
  refine wp_rdI (by (try dsimp only) <;> first | assumption | omega | ((try simp (disch := omega) only [w32_of, w64_of, w8_of]) <;> first | assumption | omega | (split <;> omega) | (refine And.intro ?_ ?_ <;> split <;> omega)) | omega) (by (try dsimp only) <;> first | assumption | omega | ((try simp (disch := omega) only [w32_of, w64_of, w8_of]) <;> first | assumption | omega | (split <;> omega) | (refine And.intro ?_ ?_ <;> split <;> omega)) | omega) (fun x_1 e_x_1 => ?_)
  have b_x_1 : 0 ≤ x_1 ∧ x_1 ≤ 8 := by rw [e_x_1]; exact ii_kW_levelKind hσ _
  try simp (disch := omega) only [w32_of, w64_of, w8_of] at e_x_1
  have c3 := ii_kW_levelKind hσ ((σ kW_depth 0) - 1)
  refine wp_ck (by first | assumption | decide | omega) ?_
  refine wp_rdI (by (try dsimp only) <;> first | assumption | omega | ((try simp (disch := omega) only [w32_of, w64_of, w8_of]) <;> first | assumption | omega | (split <;> omega) | (refine And.intro ?_ ?_ <;> split <;> omega)) | omega) (by (try dsimp only) <;> first | assumption | omega | ((try simp (disch := omega) only [w32_of, w64_of, w8_of]) <;> first | assumption | omega | (split <;> omega) | (refine And.intro ?_ ?_ <;> split <;> omega)) | omega) (fun x_4 e_x_4 => ?_)
  have b_x_4 : 0 ≤ x_4 ∧ x_4 ≤ 2047 := by rw [e_x_4]; exact ii_kW_levelCounter hσ _
  try simp (disch := omega) only [w32_of, w64_of, w8_of] at e_x_4
  have c4 := ii_kW_levelCounter hσ ((σ kW_depth 0) - 1)
  have c5 := w32_rng x_4
  refine wp_rdI (by (try dsimp only) <;> first | assumption | omega | ((try simp (disch := omega) only [w32_of, w64_of, w8_of]) <;> first | assumption | omega | (split <;> omega) | (refine And.intro ?_ ?_ <;> split <;> omega)) | omega) (by (try dsimp only) <;> first | assumption | omega | ((try simp (disch := omega) only [w32_of, w64_of, w8_of]) <;> first | assumption | omega | (split <;> omega) | (refine And.intro ?_ ?_ <;> split <;> omega)) | omega) (fun x_6 e_x_6 => ?_)
  try simp (disch := omega) only [w32_of, w64_of, w8_of] at e_x_6
  refine wp_waN hσ (bA_plan (s := s_9) (by first | assumption | decide | omega)) (by (try dsimp only) <;> first | assumption | omega | ((try simp (disch := omega) only [w32_of, w64_of, w8_of]) <;> first | assumption | omega | (split <;> omega) | (refine And.intro ?_ ?_ <;> split <;> omega)) | omega) (by (try dsimp only) <;> first | assumption | omega | ((try simp (disch := omega) only [w32_of, w64_of, w8_of]) <;> first | assumption | omega | (split <;> omega) | (refine And.intro ?_ ?_ <;> split <;> omega)) | omega) (fun σ_8 hσ_8 eσ_8 => ?_)
  try simp (disch := omega) only [w32_of, w64_of, w8_of] at eσ_8
  have flσ_8 := FS_plan eσ_8 (by first | assumption | decide | omega)
  have frσ_8 : FC [kW_at, kW_collections, kW_depth, kW_levelCounter, kW_levelKind, kW_number, kW_place, kW_wrong] [s_9] σ σ_8 := FC_le flσ_8 (by first | decide | (rcases hE with rfl | rfl | rfl <;> decide)) (by simp)
  have hkσ_8 : (σ_8 kW_shape 0).toNat = s_9 := by rw [FC_at frσ_8 (c := kW_shape) (by decide)]; exact hkσ
  try rw [hkσ_8]
  have hkb := ii_kW_levelKind hσ (σ kW_depth 0 - 1)
  rw [← e_x_1] at hkb
  have e8 : σ_8 = sg σ (kA_plan s_9) (σ kW_levelCounter (σ kW_depth 0 - 1)) (σ (kA_plan s_9) (σ kW_levelCounter (σ kW_depth 0 - 1)) + 1) := by rw [← e_x_4, ← e_x_6]; exact eσ_8
  have c7 := w32_rng x_1
  refine wp_if (fun c6 => ?_) (fun c6 => ?_)
  · try simp (disch := omega) only [w32_of, w64_of, w8_of, decide_eq_true_eq, decide_eq_false_iff_not, Bool.not_eq_true] at c6
    have c8 := ii_kW_shape hσ_8 0
    have c9 := FC_at flσ_8 (c := kW_shape) (by first | decide | (rcases hE with rfl | rfl | rfl <;> decide)) 0
    have c10 := ii_kW_shape hσ 0
    refine wp_bd (s_W_readRing (σ := σ_8) hσ_8 (by first | assumption | decide | omega) (by (try dsimp only) <;> first | assumption | omega | ((try simp (disch := omega) only [w32_of, w64_of, w8_of]) <;> first | assumption | omega | (split <;> omega) | (refine And.intro ?_ ?_ <;> split <;> omega)) | omega) (by exact IT_ring hs_s_9 w0 w1 (by rw [← e_x_1]; omega) e8)) ?_
    rintro ⟨x_13, σ_12⟩ - y11
    try dsimp only at y11 ⊢
    obtain ⟨hσ_12, flσ_12, hra, hrb⟩ := y11
    have frσ_12 : FC [kW_at, kW_collections, kW_depth, kW_levelCounter, kW_levelKind, kW_number, kW_place, kW_wrong] [s_9] σ σ_12 := FC_tr frσ_8 flσ_12 (by first | decide | (rcases hE with rfl | rfl | rfl <;> decide)) (by first | decide | (rcases hE with rfl | rfl | rfl <;> decide)) (by simp) (by simp)
    have hkσ_12 : (σ_12 kW_shape 0).toNat = s_9 := by rw [FC_at frσ_12 (c := kW_shape) (by decide)]; exact hkσ
    try rw [hkσ_12]
    try simp (disch := omega) only [w32_of, w64_of, w8_of] at hra
    have c12 := ii_kW_at hσ_8 0
    have c13 := FC_at flσ_8 (c := kW_at) (by first | decide | (rcases hE with rfl | rfl | rfl <;> decide)) 0
    have c14 := ii_kW_at hσ 0
    have c15 := ii_kW_at hσ_12 0
    have c16 := ii_kW_length hσ_8 0
    have c17 := FC_at flσ_8 (c := kW_length) (by first | decide | (rcases hE with rfl | rfl | rfl <;> decide)) 0
    have c18 := ii_kW_length hσ 0
    try simp (disch := omega) only [w32_of, w64_of, w8_of] at hrb
    have c19 := iiA_points (s := s_9) hσ_12 (by first | assumption | decide | omega) 0
    have c20 := ii_kW_depth hσ_12 0
    exact wp_some ⟨hσ_12, frσ_12, (by (try dsimp only) <;> (intro q9; first | exact ⟨(hra q9).1, fun _ => hra q9⟩ | exact ⟨(hpa q9).1, fun _ => hpa q9⟩ | exact ⟨(hsa q9).1, fun _ => hsa q9⟩ | (refine ⟨?_, fun z => absurd (by rw [FC_at flσ_23 (c := kW_depth) (by decide), FC_at flσ_8 (c := kW_depth) (by decide)]) z⟩; have hro := IT_row hs_s_9 w0 w1 (by rw [← e_x_1]; omega) e8; rw [← (hca q9).1] at hro; exact WCs_cg hro (LVw_f flσ_23 (by decide)) (hca q9).2.2 (hca q9).2.1))), (by (try dsimp only) <;> (intro q9; first | (have := hrb q9; omega) | (have := hpb q9; omega) | (have := hsb q9; omega) | (have := hcb q9; omega)))⟩
  · try simp (disch := omega) only [w32_of, w64_of, w8_of, decide_eq_true_eq, decide_eq_false_iff_not, Bool.not_eq_true] at c6
    refine wp_if (fun c21 => ?_) (fun c21 => ?_)
    · try simp (disch := omega) only [w32_of, w64_of, w8_of, decide_eq_true_eq, decide_eq_false_iff_not, Bool.not_eq_true] at c21
      have c22 := ii_kW_shape hσ_8 0
      have c23 := FC_at flσ_8 (c := kW_shape) (by first | decide | (rcases hE with rfl | rfl | rfl <;> decide)) 0
      have c24 := ii_kW_shape hσ 0
      have c25 := iiA_plans (s := s_9) hσ_8 (by first | assumption | decide | omega) 0
      have c26 := (congrFun (congrFun eσ_8 (kA_plans s_9)) 0).trans (sg_nc (ncA_plans_plan _))
      have c27 := iiA_plans (s := s_9) hσ (by first | assumption | decide | omega) 0
      have c28 := iiA_points (s := s_9) hσ_8 (by first | assumption | decide | omega) 0
      have c29 := (congrFun (congrFun eσ_8 (kA_points s_9)) 0).trans (sg_nc (ncA_points_plan _))
      have c30 := iiA_points (s := s_9) hσ (by first | assumption | decide | omega) 0
      refine wp_bd (s_W_readPart (σ := σ_8) (kind_0 := (x_1 - 3)) hσ_8 (by (try dsimp only) <;> first | assumption | omega | ((try simp (disch := omega) only [w32_of, w64_of, w8_of]) <;> first | assumption | omega | (split <;> omega) | (refine And.intro ?_ ?_ <;> split <;> omega)) | omega) (by first | assumption | decide | omega) (by (try dsimp only) <;> first | assumption | omega | ((try simp (disch := omega) only [w32_of, w64_of, w8_of]) <;> first | assumption | omega | (split <;> omega) | (refine And.intro ?_ ?_ <;> split <;> omega)) | omega) (by exact IT_em hσ hs_s_9 w0 w1 (by rw [← e_x_1]; omega) e8)) ?_
      rintro ⟨x_17, σ_16⟩ - y31
      try dsimp only at y31 ⊢
      obtain ⟨hσ_16, flσ_16, hpa, hpb⟩ := y31
      have frσ_16 : FC [kW_at, kW_collections, kW_depth, kW_levelCounter, kW_levelKind, kW_number, kW_place, kW_wrong] [s_9] σ σ_16 := FC_tr frσ_8 flσ_16 (by first | decide | (rcases hE with rfl | rfl | rfl <;> decide)) (by first | decide | (rcases hE with rfl | rfl | rfl <;> decide)) (by simp) (by simp)
      have hkσ_16 : (σ_16 kW_shape 0).toNat = s_9 := by rw [FC_at frσ_16 (c := kW_shape) (by decide)]; exact hkσ
      try rw [hkσ_16]
      try simp (disch := omega) only [w32_of, w64_of, w8_of] at hpa
      have c32 := ii_kW_at hσ_8 0
      have c33 := FC_at flσ_8 (c := kW_at) (by first | decide | (rcases hE with rfl | rfl | rfl <;> decide)) 0
      have c34 := ii_kW_at hσ 0
      have c35 := ii_kW_at hσ_16 0
      have c36 := ii_kW_length hσ_8 0
      have c37 := FC_at flσ_8 (c := kW_length) (by first | decide | (rcases hE with rfl | rfl | rfl <;> decide)) 0
      have c38 := ii_kW_length hσ 0
      try simp (disch := omega) only [w32_of, w64_of, w8_of] at hpb
      have c39 := iiA_points (s := s_9) hσ_16 (by first | assumption | decide | omega) 0
      have c40 := ii_kW_depth hσ_16 0
      exact wp_some ⟨hσ_16, frσ_16, (by (try dsimp only) <;> (intro q9; first | exact ⟨(hra q9).1, fun _ => hra q9⟩ | exact ⟨(hpa q9).1, fun _ => hpa q9⟩ | exact ⟨(hsa q9).1, fun _ => hsa q9⟩ | (refine ⟨?_, fun z => absurd (by rw [FC_at flσ_23 (c := kW_depth) (by decide), FC_at flσ_8 (c := kW_depth) (by decide)]) z⟩; have hro := IT_row hs_s_9 w0 w1 (by rw [← e_x_1]; omega) e8; rw [← (hca q9).1] at hro; exact WCs_cg hro (LVw_f flσ_23 (by decide)) (hca q9).2.2 (hca q9).2.1))), (by (try dsimp only) <;> (intro q9; first | (have := hrb q9; omega) | (have := hpb q9; omega) | (have := hsb q9; omega) | (have := hcb q9; omega)))⟩
    · try simp (disch := omega) only [w32_of, w64_of, w8_of, decide_eq_true_eq, decide_eq_false_iff_not, Bool.not_eq_true] at c21
      refine wp_if (fun c41 => ?_) (fun c41 => ?_)
      · try simp (disch := omega) only [w32_of, w64_of, w8_of, decide_eq_true_eq, decide_eq_false_iff_not, Bool.not_eq_true] at c41
        have c42 := ii_kW_shape hσ_8 0
        have c43 := FC_at flσ_8 (c := kW_shape) (by first | decide | (rcases hE with rfl | rfl | rfl <;> decide)) 0
        have c44 := ii_kW_shape hσ 0
        have c45 := iiA_plans (s := s_9) hσ_8 (by first | assumption | decide | omega) 0
        have c46 := (congrFun (congrFun eσ_8 (kA_plans s_9)) 0).trans (sg_nc (ncA_plans_plan _))
        have c47 := iiA_plans (s := s_9) hσ (by first | assumption | decide | omega) 0
        have c48 := iiA_points (s := s_9) hσ_8 (by first | assumption | decide | omega) 0
        have c49 := (congrFun (congrFun eσ_8 (kA_points s_9)) 0).trans (sg_nc (ncA_points_plan _))
        have c50 := iiA_points (s := s_9) hσ (by first | assumption | decide | omega) 0
        refine wp_bd (s_W_readShape (σ := σ_8) hσ_8 (by first | assumption | decide | omega) (by (try dsimp only) <;> first | assumption | omega | ((try simp (disch := omega) only [w32_of, w64_of, w8_of]) <;> first | assumption | omega | (split <;> omega) | (refine And.intro ?_ ?_ <;> split <;> omega)) | omega) (by exact IT_em hσ hs_s_9 w0 w1 (by rw [← e_x_1]; omega) e8)) ?_
        rintro ⟨x_21, σ_20⟩ - y51
        try dsimp only at y51 ⊢
        obtain ⟨hσ_20, flσ_20, hsa, hsb⟩ := y51
        have frσ_20 : FC [kW_at, kW_collections, kW_depth, kW_levelCounter, kW_levelKind, kW_number, kW_place, kW_wrong] [s_9] σ σ_20 := FC_tr frσ_8 flσ_20 (by first | decide | (rcases hE with rfl | rfl | rfl <;> decide)) (by first | decide | (rcases hE with rfl | rfl | rfl <;> decide)) (by simp) (by simp)
        have hkσ_20 : (σ_20 kW_shape 0).toNat = s_9 := by rw [FC_at frσ_20 (c := kW_shape) (by decide)]; exact hkσ
        try rw [hkσ_20]
        try simp (disch := omega) only [w32_of, w64_of, w8_of] at hsa
        have c52 := ii_kW_at hσ_8 0
        have c53 := FC_at flσ_8 (c := kW_at) (by first | decide | (rcases hE with rfl | rfl | rfl <;> decide)) 0
        have c54 := ii_kW_at hσ 0
        have c55 := ii_kW_at hσ_20 0
        have c56 := ii_kW_length hσ_8 0
        have c57 := FC_at flσ_8 (c := kW_length) (by first | decide | (rcases hE with rfl | rfl | rfl <;> decide)) 0
        have c58 := ii_kW_length hσ 0
        try simp (disch := omega) only [w32_of, w64_of, w8_of] at hsb
        have c59 := iiA_points (s := s_9) hσ_20 (by first | assumption | decide | omega) 0
        have c60 := ii_kW_depth hσ_20 0
        exact wp_some ⟨hσ_20, frσ_20, (by (try dsimp only) <;> (intro q9; first | exact ⟨(hra q9).1, fun _ => hra q9⟩ | exact ⟨(hpa q9).1, fun _ => hpa q9⟩ | exact ⟨(hsa q9).1, fun _ => hsa q9⟩ | (refine ⟨?_, fun z => absurd (by rw [FC_at flσ_23 (c := kW_depth) (by decide), FC_at flσ_8 (c := kW_depth) (by decide)]) z⟩; have hro := IT_row hs_s_9 w0 w1 (by rw [← e_x_1]; omega) e8; rw [← (hca q9).1] at hro; exact WCs_cg hro (LVw_f flσ_23 (by decide)) (hca q9).2.2 (hca q9).2.1))), (by (try dsimp only) <;> (intro q9; first | (have := hrb q9; omega) | (have := hpb q9; omega) | (have := hsb q9; omega) | (have := hcb q9; omega)))⟩
      · try simp (disch := omega) only [w32_of, w64_of, w8_of, decide_eq_true_eq, decide_eq_false_iff_not, Bool.not_eq_true] at c41
        have c61 := ii_kW_shape hσ_8 0
        have c62 := FC_at flσ_8 (c := kW_shape) (by first | decide | (rcases hE with rfl | rfl | rfl <;> decide)) 0
        have c63 := ii_kW_shape hσ 0
        refine wp_bd (s_W_readCoordinate (σ := σ_8) hσ_8 (by first | assumption | decide | omega) (by (try dsimp only) <;> first | assumption | omega | ((try simp (disch := omega) only [w32_of, w64_of, w8_of]) <;> first | assumption | omega | (split <;> omega) | (refine And.intro ?_ ?_ <;> split <;> omega)) | omega)) ?_
        rintro ⟨x_24, σ_23⟩ - y64
        try dsimp only at y64 ⊢
        obtain ⟨hσ_23, flσ_23, hca, hcb⟩ := y64
        have frσ_23 : FC [kW_at, kW_collections, kW_depth, kW_levelCounter, kW_levelKind, kW_number, kW_place, kW_wrong] [s_9] σ σ_23 := FC_tr frσ_8 flσ_23 (by first | decide | (rcases hE with rfl | rfl | rfl <;> decide)) (by first | decide | (rcases hE with rfl | rfl | rfl <;> decide)) (by simp) (by simp)
        have hkσ_23 : (σ_23 kW_shape 0).toNat = s_9 := by rw [FC_at frσ_23 (c := kW_shape) (by decide)]; exact hkσ
        try rw [hkσ_23]
        have c65 := iiA_points (s := s_9) hσ_23 (by first | assumption | decide | omega) 0
        have c66 := iiA_points (s := s_9) hσ_8 (by first | assumption | decide | omega) 0
        have c67 := (congrFun (congrFun eσ_8 (kA_points s_9)) 0).trans (sg_nc (ncA_points_plan _))
        have c68 := iiA_points (s := s_9) hσ (by first | assumption | decide | omega) 0
        try simp (disch := omega) only [w32_of, w64_of, w8_of] at hca
        have c69 := ii_kW_at hσ_8 0
        have c70 := FC_at flσ_8 (c := kW_at) (by first | decide | (rcases hE with rfl | rfl | rfl <;> decide)) 0
        have c71 := ii_kW_at hσ 0
        have c72 := ii_kW_at hσ_23 0
        have c73 := ii_kW_length hσ_8 0
        have c74 := FC_at flσ_8 (c := kW_length) (by first | decide | (rcases hE with rfl | rfl | rfl <;> decide)) 0
        have c75 := ii_kW_length hσ 0
        try simp (disch := omega) only [w32_of, w64_of, w8_of] at hcb
        have c76 := ii_kW_depth hσ_23 0
        have c77 := FC_at flσ_23 (c := kW_depth) (by first | decide | (rcases hE with rfl | rfl | rfl <;> decide)) 0
        have c78 := ii_kW_depth hσ_8 0
        have c79 := FC_at flσ_8 (c := kW_depth) (by first | decide | (rcases hE with rfl | rfl | rfl <;> decide)) 0
        exact wp_some ⟨hσ_23, frσ_23, (by (try dsimp only) <;> (intro q9; first | exact ⟨(hra q9).1, fun _ => hra q9⟩ | exact ⟨(hpa q9).1, fun _ => hpa q9⟩ | exact ⟨(hsa q9).1, fun _ => hsa q9⟩ | (refine ⟨?_, fun z => absurd (by rw [FC_at flσ_23 (c := kW_depth) (by decide), FC_at flσ_8 (c := kW_depth) (by decide)]) z⟩; have hro := IT_row hs_s_9 w0 w1 (by rw [← e_x_1]; omega) e8; rw [← (hca q9).1] at hro; exact WCs_cg hro (LVw_f flσ_23 (by decide)) (hca q9).2.2 (hca q9).2.1))), (by (try dsimp only) <;> (intro q9; first | (have := hrb q9; omega) | (have := hpb q9; omega) | (have := hsb q9; omega) | (have := hcb q9; omega)))⟩
theorem s_W_readInto {σ : SG} {into_0 : Nat} {bytes_0 : Int} (hσ : II σ) (hs_into_0 : isS into_0) (w0 : 0 ≤ bytes_0 ∧ bytes_0 ≤ 65536) : wp_ (fW_readInto σ into_0 bytes_0) (fun zz_ => II zz_.2 ∧ FC [kW_at, kW_collections, kW_depth, kW_length, kW_levelCounter, kW_levelKind, kW_number, kW_place, kW_shape, kW_wrong] [into_0] σ zz_.2 ∧ ((zz_.1 = true) → (SHa zz_.2 into_0))) := by
  unfold fW_readInto
  refine wp_wfI hσ b_kW_shape (by (try dsimp only) <;> first | assumption | omega | ((try simp (disch := omega) only [w32_of, w64_of, w8_of]) <;> first | assumption | omega | (split <;> omega) | (refine And.intro ?_ ?_ <;> split <;> omega)) | omega) (fun σ_1 hσ_1 eσ_1 => ?_)
  try simp (disch := omega) only [w32_of, w64_of, w8_of] at eσ_1
  have flσ_1 := FC_sg eσ_1 (by first | decide | (rcases hE with rfl | rfl | rfl <;> decide))
  have frσ_1 : FC [kW_at, kW_collections, kW_depth, kW_length, kW_levelCounter, kW_levelKind, kW_number, kW_place, kW_shape, kW_wrong] [into_0] σ σ_1 := FC_le flσ_1 (by first | decide | (rcases hE with rfl | rfl | rfl <;> decide)) (by simp)
  have hkσ_1 : (σ_1 kW_shape 0).toNat = into_0 := by rw [eσ_1, sg_at]; first | rfl | omega | simp
  try rw [hkσ_1]
  refine wp_ck (by first | assumption | decide | omega) ?_
  refine wp_bd (v_clearA (σ := σ_1) (this_0 := into_0) hσ_1 (by first | assumption | decide | omega)) ?_
  rintro σ_4 - ⟨hσ_4, flσ_4, hc1, hc2⟩
  have frσ_4 : FC [kW_at, kW_collections, kW_depth, kW_length, kW_levelCounter, kW_levelKind, kW_number, kW_place, kW_shape, kW_wrong] [into_0] σ σ_4 := FC_tr frσ_1 flσ_4 (by first | decide | (rcases hE with rfl | rfl | rfl <;> decide)) (by first | decide | (rcases hE with rfl | rfl | rfl <;> decide)) (by simp) (by simp)
  have hkσ_4 : (σ_4 kW_shape 0).toNat = into_0 := by rw [FC_at flσ_4 (c := kW_shape) (by decide)]; exact hkσ_1
  try rw [hkσ_4]
  have c1 := iiA_plans (s := into_0) hσ_4 (by first | assumption | decide | omega) 0
  try simp (disch := omega) only [w32_of, w64_of, w8_of] at hc1
  have c2 := iiA_points (s := into_0) hσ_4 (by first | assumption | decide | omega) 0
  try simp (disch := omega) only [w32_of, w64_of, w8_of] at hc2
  have c3 := q_mni_bd bytes_0 65536
  try simp (disch := omega) only [w32_of, w64_of, w8_of] at c3
  refine wp_wfI hσ_4 b_kW_length (by (try dsimp only) <;> first | assumption | omega | ((try simp (disch := omega) only [w32_of, w64_of, w8_of]) <;> first | assumption | omega | (split <;> omega) | (refine And.intro ?_ ?_ <;> split <;> omega)) | omega) (fun σ_5 hσ_5 eσ_5 => ?_)
  try simp (disch := omega) only [w32_of, w64_of, w8_of] at eσ_5
  have flσ_5 := FC_sg eσ_5 (by first | decide | (rcases hE with rfl | rfl | rfl <;> decide))
  have frσ_5 : FC [kW_at, kW_collections, kW_depth, kW_length, kW_levelCounter, kW_levelKind, kW_number, kW_place, kW_shape, kW_wrong] [into_0] σ σ_5 := FC_tr frσ_4 flσ_5 (by first | decide | (rcases hE with rfl | rfl | rfl <;> decide)) (by first | decide | (rcases hE with rfl | rfl | rfl <;> decide)) (by simp) (by simp)
  have hkσ_5 : (σ_5 kW_shape 0).toNat = into_0 := by rw [FC_at flσ_5 (c := kW_shape) (by decide)]; exact hkσ_4
  try rw [hkσ_5]
  refine wp_wfI hσ_5 b_kW_at (by (try dsimp only) <;> first | assumption | omega | ((try simp (disch := omega) only [w32_of, w64_of, w8_of]) <;> first | assumption | omega | (split <;> omega) | (refine And.intro ?_ ?_ <;> split <;> omega)) | omega) (fun σ_6 hσ_6 eσ_6 => ?_)
  try simp (disch := omega) only [w32_of, w64_of, w8_of] at eσ_6
  have flσ_6 := FC_sg eσ_6 (by first | decide | (rcases hE with rfl | rfl | rfl <;> decide))
  have frσ_6 : FC [kW_at, kW_collections, kW_depth, kW_length, kW_levelCounter, kW_levelKind, kW_number, kW_place, kW_shape, kW_wrong] [into_0] σ σ_6 := FC_tr frσ_5 flσ_6 (by first | decide | (rcases hE with rfl | rfl | rfl <;> decide)) (by first | decide | (rcases hE with rfl | rfl | rfl <;> decide)) (by simp) (by simp)
  have hkσ_6 : (σ_6 kW_shape 0).toNat = into_0 := by rw [FC_at flσ_6 (c := kW_shape) (by decide)]; exact hkσ_5
  try rw [hkσ_6]
  refine wp_wfI hσ_6 b_kW_depth (by (try dsimp only) <;> first | assumption | omega | ((try simp (disch := omega) only [w32_of, w64_of, w8_of]) <;> first | assumption | omega | (split <;> omega) | (refine And.intro ?_ ?_ <;> split <;> omega)) | omega) (fun σ_7 hσ_7 eσ_7 => ?_)
  try simp (disch := omega) only [w32_of, w64_of, w8_of] at eσ_7
  have flσ_7 := FC_sg eσ_7 (by first | decide | (rcases hE with rfl | rfl | rfl <;> decide))
  have frσ_7 : FC [kW_at, kW_collections, kW_depth, kW_length, kW_levelCounter, kW_levelKind, kW_number, kW_place, kW_shape, kW_wrong] [into_0] σ σ_7 := FC_tr frσ_6 flσ_7 (by first | decide | (rcases hE with rfl | rfl | rfl <;> decide)) (by first | decide | (rcases hE with rfl | rfl | rfl <;> decide)) (by simp) (by simp)
  have hkσ_7 : (σ_7 kW_shape 0).toNat = into_0 := by rw [FC_at flσ_7 (c := kW_shape) (by decide)]; exact hkσ_6
  try rw [hkσ_7]
  refine wp_wfN hσ_7 b_kW_collections (fun σ_8 hσ_8 eσ_8 => ?_)
  try simp (disch := omega) only [w32_of, w64_of, w8_of] at eσ_8
  have flσ_8 := FC_sg eσ_8 (by first | decide | (rcases hE with rfl | rfl | rfl <;> decide))
  have frσ_8 : FC [kW_at, kW_collections, kW_depth, kW_length, kW_levelCounter, kW_levelKind, kW_number, kW_place, kW_shape, kW_wrong] [into_0] σ σ_8 := FC_tr frσ_7 flσ_8 (by first | decide | (rcases hE with rfl | rfl | rfl <;> decide)) (by first | decide | (rcases hE with rfl | rfl | rfl <;> decide)) (by simp) (by simp)
  have hkσ_8 : (σ_8 kW_shape 0).toNat = into_0 := by rw [FC_at flσ_8 (c := kW_shape) (by decide)]; exact hkσ_7
  try rw [hkσ_8]
  refine wp_wfI hσ_8 b_kW_wrong (by (try dsimp only) <;> first | assumption | omega | ((try simp (disch := omega) only [w32_of, w64_of, w8_of]) <;> first | assumption | omega | (split <;> omega) | (refine And.intro ?_ ?_ <;> split <;> omega)) | omega) (fun σ_9 hσ_9 eσ_9 => ?_)
  try simp (disch := omega) only [w32_of, w64_of, w8_of] at eσ_9
  have flσ_9 := FC_sg eσ_9 (by first | decide | (rcases hE with rfl | rfl | rfl <;> decide))
  have frσ_9 : FC [kW_at, kW_collections, kW_depth, kW_length, kW_levelCounter, kW_levelKind, kW_number, kW_place, kW_shape, kW_wrong] [into_0] σ σ_9 := FC_tr frσ_8 flσ_9 (by first | decide | (rcases hE with rfl | rfl | rfl <;> decide)) (by first | decide | (rcases hE with rfl | rfl | rfl <;> decide)) (by simp) (by simp)
  have hkσ_9 : (σ_9 kW_shape 0).toNat = into_0 := by rw [FC_at flσ_9 (c := kW_shape) (by decide)]; exact hkσ_8
  try rw [hkσ_9]
  refine wp_wfI hσ_9 b_kW_place (by (try dsimp only) <;> first | assumption | omega | ((try simp (disch := omega) only [w32_of, w64_of, w8_of]) <;> first | assumption | omega | (split <;> omega) | (refine And.intro ?_ ?_ <;> split <;> omega)) | omega) (fun σ_10 hσ_10 eσ_10 => ?_)
  try simp (disch := omega) only [w32_of, w64_of, w8_of] at eσ_10
  have flσ_10 := FC_sg eσ_10 (by first | decide | (rcases hE with rfl | rfl | rfl <;> decide))
  have frσ_10 : FC [kW_at, kW_collections, kW_depth, kW_length, kW_levelCounter, kW_levelKind, kW_number, kW_place, kW_shape, kW_wrong] [into_0] σ σ_10 := FC_tr frσ_9 flσ_10 (by first | decide | (rcases hE with rfl | rfl | rfl <;> decide)) (by first | decide | (rcases hE with rfl | rfl | rfl <;> decide)) (by simp) (by simp)
  have hkσ_10 : (σ_10 kW_shape 0).toNat = into_0 := by rw [FC_at flσ_10 (c := kW_shape) (by decide)]; exact hkσ_9
  try rw [hkσ_10]
  have w10 : WOs σ_10 into_0 (σ_10 (kA_plans into_0) 0) (σ_10 (kA_points into_0) 0) := WOs_0 (by rw [FC_at flσ_10 (c := kW_depth) (by decide), FC_at flσ_9 (c := kW_depth) (by decide), FC_at flσ_8 (c := kW_depth) (by decide), eσ_7, sg_at]) (by rw [FC_plans flσ_10 hs_into_0 (NS_0 _), FC_plans flσ_9 hs_into_0 (NS_0 _), FC_plans flσ_8 hs_into_0 (NS_0 _), FC_plans flσ_7 hs_into_0 (NS_0 _), FC_plans flσ_6 hs_into_0 (NS_0 _), FC_plans flσ_5 hs_into_0 (NS_0 _)]; exact hc1) (by rw [FC_points flσ_10 hs_into_0 (NS_0 _), FC_points flσ_9 hs_into_0 (NS_0 _), FC_points flσ_8 hs_into_0 (NS_0 _), FC_points flσ_7 hs_into_0 (NS_0 _), FC_points flσ_6 hs_into_0 (NS_0 _), FC_points flσ_5 hs_into_0 (NS_0 _)]; exact hc2)
  have hln := ii_kW_length hσ_10 0
  have c4 := ii_kW_shape hσ_10 0
  have c5 := FC_at flσ_10 (c := kW_shape) (by first | decide | (rcases hE with rfl | rfl | rfl <;> decide)) 0
  have c6 := ii_kW_shape hσ_9 0
  have c7 := FC_at flσ_9 (c := kW_shape) (by first | decide | (rcases hE with rfl | rfl | rfl <;> decide)) 0
  have c8 := ii_kW_shape hσ_8 0
  have c9 := FC_at flσ_8 (c := kW_shape) (by first | decide | (rcases hE with rfl | rfl | rfl <;> decide)) 0
  have c10 := ii_kW_shape hσ_7 0
  have c11 := FC_at flσ_7 (c := kW_shape) (by first | decide | (rcases hE with rfl | rfl | rfl <;> decide)) 0
  have c12 := ii_kW_shape hσ_6 0
  have c13 := FC_at flσ_6 (c := kW_shape) (by first | decide | (rcases hE with rfl | rfl | rfl <;> decide)) 0
  have c14 := ii_kW_shape hσ_5 0
  have c15 := FC_at flσ_5 (c := kW_shape) (by first | decide | (rcases hE with rfl | rfl | rfl <;> decide)) 0
  have c16 := ii_kW_shape hσ_4 0
  have c17 := FC_at flσ_4 (c := kW_shape) (by first | decide | (rcases hE with rfl | rfl | rfl <;> decide)) 0
  have c18 := ii_kW_shape hσ_1 0
  have c19 := sg_val eσ_1
  have c20 := iiA_plans (s := into_0) hσ_10 (by first | assumption | decide | omega) 0
  have c21 := congrFun (FC_plans (t := into_0) flσ_10 (by first | assumption | decide | omega) (NS_0 _)) 0
  have c22 := iiA_plans (s := into_0) hσ_9 (by first | assumption | decide | omega) 0
  have c23 := congrFun (FC_plans (t := into_0) flσ_9 (by first | assumption | decide | omega) (NS_0 _)) 0
  have c24 := iiA_plans (s := into_0) hσ_8 (by first | assumption | decide | omega) 0
  have c25 := congrFun (FC_plans (t := into_0) flσ_8 (by first | assumption | decide | omega) (NS_0 _)) 0
  have c26 := iiA_plans (s := into_0) hσ_7 (by first | assumption | decide | omega) 0
  have c27 := congrFun (FC_plans (t := into_0) flσ_7 (by first | assumption | decide | omega) (NS_0 _)) 0
  have c28 := iiA_plans (s := into_0) hσ_6 (by first | assumption | decide | omega) 0
  have c29 := congrFun (FC_plans (t := into_0) flσ_6 (by first | assumption | decide | omega) (NS_0 _)) 0
  have c30 := iiA_plans (s := into_0) hσ_5 (by first | assumption | decide | omega) 0
  have c31 := congrFun (FC_plans (t := into_0) flσ_5 (by first | assumption | decide | omega) (NS_0 _)) 0
  have c32 := iiA_points (s := into_0) hσ_10 (by first | assumption | decide | omega) 0
  have c33 := congrFun (FC_points (t := into_0) flσ_10 (by first | assumption | decide | omega) (NS_0 _)) 0
  have c34 := iiA_points (s := into_0) hσ_9 (by first | assumption | decide | omega) 0
  have c35 := congrFun (FC_points (t := into_0) flσ_9 (by first | assumption | decide | omega) (NS_0 _)) 0
  have c36 := iiA_points (s := into_0) hσ_8 (by first | assumption | decide | omega) 0
  have c37 := congrFun (FC_points (t := into_0) flσ_8 (by first | assumption | decide | omega) (NS_0 _)) 0
  have c38 := iiA_points (s := into_0) hσ_7 (by first | assumption | decide | omega) 0
  have c39 := congrFun (FC_points (t := into_0) flσ_7 (by first | assumption | decide | omega) (NS_0 _)) 0
  have c40 := iiA_points (s := into_0) hσ_6 (by first | assumption | decide | omega) 0
  have c41 := congrFun (FC_points (t := into_0) flσ_6 (by first | assumption | decide | omega) (NS_0 _)) 0
  have c42 := iiA_points (s := into_0) hσ_5 (by first | assumption | decide | omega) 0
  have c43 := congrFun (FC_points (t := into_0) flσ_5 (by first | assumption | decide | omega) (NS_0 _)) 0
  refine wp_bd (s_W_readShape (σ := σ_10) (s_9 := into_0) hσ_10 (by first | assumption | decide | omega) (by (try dsimp only) <;> first | assumption | omega | ((try simp (disch := omega) only [w32_of, w64_of, w8_of]) <;> first | assumption | omega | (split <;> omega) | (refine And.intro ?_ ?_ <;> split <;> omega)) | omega) (by exact w10)) ?_
  rintro ⟨x_13, σ_12⟩ - y44
  try dsimp only at y44 ⊢
  obtain ⟨hσ_12, flσ_12, hsa, hsb⟩ := y44
  have frσ_12 : FC [kW_at, kW_collections, kW_depth, kW_length, kW_levelCounter, kW_levelKind, kW_number, kW_place, kW_shape, kW_wrong] [into_0] σ σ_12 := FC_tr frσ_10 flσ_12 (by first | decide | (rcases hE with rfl | rfl | rfl <;> decide)) (by first | decide | (rcases hE with rfl | rfl | rfl <;> decide)) (by simp) (by simp)
  have hkσ_12 : (σ_12 kW_shape 0).toNat = into_0 := by rw [FC_at flσ_12 (c := kW_shape) (by decide)]; exact hkσ_10
  try rw [hkσ_12]
  try simp (disch := omega) only [w32_of, w64_of, w8_of] at hsa
  have c45 := ii_kW_at hσ_10 0
  have c46 := FC_at flσ_10 (c := kW_at) (by first | decide | (rcases hE with rfl | rfl | rfl <;> decide)) 0
  have c47 := ii_kW_at hσ_9 0
  have c48 := FC_at flσ_9 (c := kW_at) (by first | decide | (rcases hE with rfl | rfl | rfl <;> decide)) 0
  have c49 := ii_kW_at hσ_8 0
  have c50 := FC_at flσ_8 (c := kW_at) (by first | decide | (rcases hE with rfl | rfl | rfl <;> decide)) 0
  have c51 := ii_kW_at hσ_7 0
  have c52 := FC_at flσ_7 (c := kW_at) (by first | decide | (rcases hE with rfl | rfl | rfl <;> decide)) 0
  have c53 := ii_kW_at hσ_6 0
  have c54 := sg_val eσ_6
  have c55 := ii_kW_at hσ_12 0
  have c56 := ii_kW_length hσ_10 0
  have c57 := FC_at flσ_10 (c := kW_length) (by first | decide | (rcases hE with rfl | rfl | rfl <;> decide)) 0
  have c58 := ii_kW_length hσ_9 0
  have c59 := FC_at flσ_9 (c := kW_length) (by first | decide | (rcases hE with rfl | rfl | rfl <;> decide)) 0
  have c60 := ii_kW_length hσ_8 0
  have c61 := FC_at flσ_8 (c := kW_length) (by first | decide | (rcases hE with rfl | rfl | rfl <;> decide)) 0
  have c62 := ii_kW_length hσ_7 0
  have c63 := FC_at flσ_7 (c := kW_length) (by first | decide | (rcases hE with rfl | rfl | rfl <;> decide)) 0
  have c64 := ii_kW_length hσ_6 0
  have c65 := FC_at flσ_6 (c := kW_length) (by first | decide | (rcases hE with rfl | rfl | rfl <;> decide)) 0
  have c66 := ii_kW_length hσ_5 0
  have c67 := sg_val eσ_5
  try simp (disch := omega) only [w32_of, w64_of, w8_of] at hsb
  refine wp_bd (P := fun rr_ => II rr_.2.2 ∧ FC [kW_at, kW_collections, kW_depth, kW_length, kW_levelCounter, kW_levelKind, kW_number, kW_place, kW_shape, kW_wrong] [into_0] σ rr_.2.2 ∧ ((rr_.2.2 kW_shape 0).toNat = into_0) ∧ ((rr_.1 = true) → (SHa rr_.2.2 into_0))) ?_ ?_
  · have c68 := ii_kW_shape hσ_12 0
    have c69 := FC_at flσ_12 (c := kW_shape) (by first | decide | (rcases hE with rfl | rfl | rfl <;> decide)) 0
    have c70 := ii_kW_length hσ_12 0
    have c71 := FC_at flσ_12 (c := kW_length) (by first | decide | (rcases hE with rfl | rfl | rfl <;> decide)) 0
    refine wp_whl (fun ss_ => II ss_.2.2 ∧ FC [kW_at, kW_collections, kW_depth, kW_length, kW_levelCounter, kW_levelKind, kW_number, kW_place, kW_shape, kW_wrong] [into_0] σ ss_.2.2 ∧ (0 ≤ ss_.2.1 ∧ ss_.2.1 ≤ 65537) ∧ ((ss_.2.2 kW_shape 0).toNat = into_0) ∧ ((ss_.1 = true) → (WIs ss_.2.2 into_0)) ∧ ((ss_.1 = true) → (ss_.2.1 + 1 ≤ ss_.2.2 kW_at 0 ∧ ss_.2.2 kW_at 0 ≤ ss_.2.2 kW_length 0))) (fun ss_ => (65538 - ss_.2.1).toNat) ⟨hσ_12, frσ_12, (by (try dsimp only) <;> first | assumption | omega | ((try simp (disch := omega) only [w32_of, w64_of, w8_of]) <;> first | assumption | omega | (split <;> omega) | (refine And.intro ?_ ?_ <;> split <;> omega)) | omega), (by (try dsimp only) <;> (first | exact hkσ_12 | exact hkσ_44)), (by (try dsimp only) <;> (intro q9; first | exact hsa q9 | exact hz q9)), (by (try dsimp only) <;> (intro q9; first | (have := hsb q9; omega) | (have := hz2 q9; omega)))⟩ ?_
    rintro ⟨good_14, round_15, σ_16⟩ y73
    try dsimp only at y73 ⊢
    obtain ⟨hσ_16, frσ_16, g72, hkσ_16, hgd, hge⟩ := y73
    try rw [hkσ_16]
    have hl16 := ii_kW_length hσ_16 0
    have hd16 := ii_kW_depth hσ_16 0
    have c75 := ii_kW_depth hσ_16 0
    have c76 := w32_rng (σ_16 kW_depth 0)
    have c77 := w32_rng round_15
    have c78 := ii_kW_length hσ_16 0
    have c79 := w32_rng (σ_16 kW_length 0)
    refine wp_if (fun c74 => ?_) (fun c74 => ?_)
    · have hcc := c74
      try simp (disch := omega) only [w32_of, w64_of, w8_of, decide_eq_true_eq, decide_eq_false_iff_not, Bool.not_eq_true] at c74
      have c80 := ii_kW_shape hσ_16 0
      refine wp_bd (s_W_readItem (σ := σ_16) (s_9 := into_0) hσ_16 (by first | assumption | decide | omega) (by (try dsimp only) <;> first | assumption | omega | ((try simp (disch := omega) only [w32_of, w64_of, w8_of]) <;> first | assumption | omega | (split <;> omega) | (refine And.intro ?_ ?_ <;> split <;> omega)) | omega) (by exact hgd hcc.1.1) (by (try dsimp only) <;> first | assumption | omega | ((try simp (disch := omega) only [w32_of, w64_of, w8_of]) <;> first | assumption | omega | (split <;> omega) | (refine And.intro ?_ ?_ <;> split <;> omega)) | omega)) ?_
      rintro ⟨x_26, σ_25⟩ - y81
      try dsimp only at y81 ⊢
      obtain ⟨hσ_25, flσ_25, hia, hib⟩ := y81
      have frσ_25 : FC [kW_at, kW_collections, kW_depth, kW_length, kW_levelCounter, kW_levelKind, kW_number, kW_place, kW_shape, kW_wrong] [into_0] σ σ_25 := FC_tr frσ_16 flσ_25 (by first | decide | (rcases hE with rfl | rfl | rfl <;> decide)) (by first | decide | (rcases hE with rfl | rfl | rfl <;> decide)) (by simp) (by simp)
      have hkσ_25 : (σ_25 kW_shape 0).toNat = into_0 := by rw [FC_at flσ_25 (c := kW_shape) (by decide)]; exact hkσ_16
      try rw [hkσ_25]
      have c82 := iiA_points (s := into_0) hσ_25 (by first | assumption | decide | omega) 0
      have c83 := ii_kW_depth hσ_25 0
      try simp (disch := omega) only [w32_of, w64_of, w8_of] at hia
      have c84 := ii_kW_at hσ_16 0
      have c85 := ii_kW_at hσ_25 0
      try simp (disch := omega) only [w32_of, w64_of, w8_of] at hib
      refine wp_bd (P := fun rr_ => II rr_.2 ∧ FC [kW_at, kW_collections, kW_depth, kW_length, kW_levelCounter, kW_levelKind, kW_number, kW_place, kW_shape, kW_wrong] [into_0] σ rr_.2 ∧ ((rr_.2 kW_shape 0).toNat = into_0) ∧ ((rr_.1 = true) → (WIs rr_.2 into_0)) ∧ ((rr_.1 = true) → (round_15 + 2 ≤ rr_.2 kW_at 0 ∧ rr_.2 kW_at 0 ≤ rr_.2 kW_length 0))) ?_ ?_
      · have c87 := w32_rng (σ_25 kW_depth 0)
        refine wp_if (fun c86 => ?_) (fun c86 => ?_)
        · have hcd := c86
          try simp (disch := omega) only [w32_of, w64_of, w8_of, decide_eq_true_eq, decide_eq_false_iff_not, Bool.not_eq_true] at c86
          have c88 := ii_kW_shape hσ_25 0
          have c89 := FC_at flσ_25 (c := kW_shape) (by first | decide | (rcases hE with rfl | rfl | rfl <;> decide)) 0
          refine wp_bd (s_W_goOnBehindItem (σ := σ_25) (s_9 := into_0) hσ_25 (by first | assumption | decide | omega) (by (try dsimp only) <;> first | assumption | omega | ((try simp (disch := omega) only [w32_of, w64_of, w8_of]) <;> first | assumption | omega | (split <;> omega) | (refine And.intro ?_ ?_ <;> split <;> omega)) | omega) (by exact (hia hcd.1).1)) ?_
          rintro ⟨x_33, σ_32⟩ - y90
          try dsimp only at y90 ⊢
          obtain ⟨hσ_32, flσ_32, hga, hgb, hgc⟩ := y90
          have frσ_32 : FC [kW_at, kW_collections, kW_depth, kW_length, kW_levelCounter, kW_levelKind, kW_number, kW_place, kW_shape, kW_wrong] [into_0] σ σ_32 := FC_tr frσ_25 flσ_32 (by first | decide | (rcases hE with rfl | rfl | rfl <;> decide)) (by first | decide | (rcases hE with rfl | rfl | rfl <;> decide)) (by simp) (by simp)
          have hkσ_32 : (σ_32 kW_shape 0).toNat = into_0 := by rw [FC_at flσ_32 (c := kW_shape) (by decide)]; exact hkσ_25
          try rw [hkσ_32]
          try simp (disch := omega) only [w32_of, w64_of, w8_of] at hga
          have c91 := ii_kW_at hσ_32 0
          try simp (disch := omega) only [w32_of, w64_of, w8_of] at hgb
          have c92 := ii_kW_length hσ_25 0
          have c93 := FC_at flσ_25 (c := kW_length) (by first | decide | (rcases hE with rfl | rfl | rfl <;> decide)) 0
          try simp (disch := omega) only [w32_of, w64_of, w8_of] at hgc
          have c94 := ii_kW_shape hσ_32 0
          have c95 := FC_at flσ_32 (c := kW_shape) (by first | decide | (rcases hE with rfl | rfl | rfl <;> decide)) 0
          have c96 := ii_kW_length hσ_32 0
          have c97 := FC_at flσ_32 (c := kW_length) (by first | decide | (rcases hE with rfl | rfl | rfl <;> decide)) 0
          exact wp_some ⟨hσ_32, frσ_32, (by (try dsimp only) <;> (first | exact hkσ_32 | exact hkσ_25)), (by (try dsimp only) <;> (intro q9; first | exact hga q9 | exact (hia q9).2 (fun z => hcd ⟨q9, by rw [z]⟩))), (by (try dsimp only) <;> (intro q9; first | (have q1 := hib hcd.1; have q2 := hge hcc.1.1; have q3 := hgb q9; have q4 := hgc q9 (by omega); omega) | (have q1 := hib q9; have q2 := hge hcc.1.1; omega)))⟩
        · have hcd := c86
          try simp (disch := omega) only [w32_of, w64_of, w8_of, decide_eq_true_eq, decide_eq_false_iff_not, Bool.not_eq_true] at c86
          have c98 := ii_kW_shape hσ_25 0
          have c99 := FC_at flσ_25 (c := kW_shape) (by first | decide | (rcases hE with rfl | rfl | rfl <;> decide)) 0
          have c100 := ii_kW_length hσ_25 0
          have c101 := FC_at flσ_25 (c := kW_length) (by first | decide | (rcases hE with rfl | rfl | rfl <;> decide)) 0
          exact wp_some ⟨hσ_25, frσ_25, (by (try dsimp only) <;> (first | exact hkσ_32 | exact hkσ_25)), (by (try dsimp only) <;> (intro q9; first | exact hga q9 | exact (hia q9).2 (fun z => hcd ⟨q9, by rw [z]⟩))), (by (try dsimp only) <;> (intro q9; first | (have q1 := hib hcd.1; have q2 := hge hcc.1.1; have q3 := hgb q9; have q4 := hgc q9 (by omega); omega) | (have q1 := hib q9; have q2 := hge hcc.1.1; omega)))⟩
      rintro ⟨good_43, σ_44⟩ _ y102
      try dsimp only at y102 ⊢
      obtain ⟨hσ_44, frσ_44, hkσ_44, hz, hz2⟩ := y102
      try rw [hkσ_44]
      have c103 := ii_kW_shape hσ_44 0
      have c104 := ii_kW_at hσ_44 0
      have c105 := ii_kW_length hσ_44 0
      exact wp_some (x_inl ⟨⟨hσ_44, frσ_44, (by (try dsimp only) <;> first | assumption | omega | ((try simp (disch := omega) only [w32_of, w64_of, w8_of]) <;> first | assumption | omega | (split <;> omega) | (refine And.intro ?_ ?_ <;> split <;> omega)) | omega), (by (try dsimp only) <;> (first | exact hkσ_12 | exact hkσ_44)), (by (try dsimp only) <;> (intro q9; first | exact hsa q9 | exact hz q9)), (by (try dsimp only) <;> (intro q9; first | (have := hsb q9; omega) | (have := hz2 q9; omega)))⟩, (by (try dsimp only) <;> first | assumption | omega | ((try simp (disch := omega) only [w32_of, w64_of, w8_of]) <;> first | assumption | omega | (split <;> omega) | (refine And.intro ?_ ?_ <;> split <;> omega)) | omega)⟩)
    · have hcc := c74
      try simp (disch := omega) only [w32_of, w64_of, w8_of, decide_eq_true_eq, decide_eq_false_iff_not, Bool.not_eq_true] at c74
      have c106 := ii_kW_shape hσ_16 0
      exact wp_some (x_inr ⟨hσ_16, frσ_16, (by (try dsimp only) <;> (exact hkσ_16)), (by (try dsimp only) <;> (intro q9; have q1 := hge q9; exact WIs_end hσ_16 (hgd q9) (Int.not_lt.mp fun z => hcc ⟨⟨q9, by rw [w32_of (by omega) (by omega)]; exact z⟩, by rw [w32_of (by omega) (by omega), w32_of (by omega) (by omega)]; omega⟩)))⟩)
  rintro ⟨good_57, round_58, σ_59⟩ _ y107
  try dsimp only at y107 ⊢
  obtain ⟨hσ_59, frσ_59, hkσ_59, hsh⟩ := y107
  try rw [hkσ_59]
  refine wp_bd (s_W_skipBlanks (σ := σ_59) hσ_59) ?_
  rintro σ_61 - ⟨hσ_61, flσ_61, hsk, g108⟩
  have frσ_61 : FC [kW_at, kW_collections, kW_depth, kW_length, kW_levelCounter, kW_levelKind, kW_number, kW_place, kW_shape, kW_wrong] [into_0] σ σ_61 := FC_tr frσ_59 flσ_61 (by first | decide | (rcases hE with rfl | rfl | rfl <;> decide)) (by first | decide | (rcases hE with rfl | rfl | rfl <;> decide)) (by simp) (by simp)
  have hkσ_61 : (σ_61 kW_shape 0).toNat = into_0 := by rw [FC_at flσ_61 (c := kW_shape) (by decide)]; exact hkσ_59
  try rw [hkσ_61]
  have c109 := ii_kW_at hσ_59 0
  have c110 := ii_kW_at hσ_61 0
  try simp (disch := omega) only [w32_of, w64_of, w8_of] at hsk
  have c111 := ii_kW_length hσ_59 0
  try simp (disch := omega) only [w32_of, w64_of, w8_of] at g108
  refine wp_bd (P := fun rr_ => II rr_.2 ∧ FC [kW_at, kW_collections, kW_depth, kW_length, kW_levelCounter, kW_levelKind, kW_number, kW_place, kW_shape, kW_wrong] [into_0] σ rr_.2 ∧ ((rr_.1 = true) → (SHa rr_.2 into_0))) ?_ ?_
  · refine wp_if (fun c112 => ?_) (fun c112 => ?_)
    · have k113 := hsh c112
      try simp (disch := omega) only [w32_of, w64_of, w8_of] at k113
      try simp (disch := omega) only [w32_of, w64_of, w8_of, decide_eq_true_eq, decide_eq_false_iff_not, Bool.not_eq_true] at c112
      have c115 := ii_kW_length hσ_61 0
      have c116 := FC_at flσ_61 (c := kW_length) (by first | decide | (rcases hE with rfl | rfl | rfl <;> decide)) 0
      have c117 := w32_rng (σ_61 kW_length 0)
      have c118 := w32_rng (σ_61 kW_at 0)
      refine wp_if (fun c114 => ?_) (fun c114 => ?_)
      · try simp (disch := omega) only [w32_of, w64_of, w8_of, decide_eq_true_eq, decide_eq_false_iff_not, Bool.not_eq_true] at c114
        exact wp_some ⟨hσ_61, frσ_61, (by (try dsimp only) <;> (intro q9; first | exact absurd q9 (by decide) | exact SHa_f flσ_61 hs_into_0 (NS_0 _) (hsh (by assumption)) | (rename_i hx; rw [hfl] at hx; exact absurd hx (by decide))))⟩
      · try simp (disch := omega) only [w32_of, w64_of, w8_of, decide_eq_true_eq, decide_eq_false_iff_not, Bool.not_eq_true] at c114
        refine wp_bd (v_failW (σ := σ_61) (code_0 := 8) hσ_61 (by (try dsimp only) <;> first | assumption | omega | ((try simp (disch := omega) only [w32_of, w64_of, w8_of]) <;> first | assumption | omega | (split <;> omega) | (refine And.intro ?_ ?_ <;> split <;> omega)) | omega)) ?_
        rintro ⟨x_67, σ_66⟩ - y119
        try dsimp only at y119 ⊢
        obtain ⟨hσ_66, flσ_66, hfl⟩ := y119
        have frσ_66 : FC [kW_at, kW_collections, kW_depth, kW_length, kW_levelCounter, kW_levelKind, kW_number, kW_place, kW_shape, kW_wrong] [into_0] σ σ_66 := FC_tr frσ_61 flσ_66 (by first | decide | (rcases hE with rfl | rfl | rfl <;> decide)) (by first | decide | (rcases hE with rfl | rfl | rfl <;> decide)) (by simp) (by simp)
        have hkσ_66 : (σ_66 kW_shape 0).toNat = into_0 := by rw [FC_at flσ_66 (c := kW_shape) (by decide)]; exact hkσ_61
        try rw [hkσ_66]
        try simp (disch := omega) only [w32_of, w64_of, w8_of] at hfl
        refine wp_if (fun c120 => ?_) (fun c120 => ?_)
        · exact absurd (c120.symm.trans hfl) (by decide)
        · try simp (disch := omega) only [w32_of, w64_of, w8_of, decide_eq_true_eq, decide_eq_false_iff_not, Bool.not_eq_true] at c120
          exact wp_some ⟨hσ_66, frσ_66, (fun q => (by cases q))⟩
    · try simp (disch := omega) only [w32_of, w64_of, w8_of, decide_eq_true_eq, decide_eq_false_iff_not, Bool.not_eq_true] at c112
      exact wp_some ⟨hσ_61, frσ_61, (fun q => (by cases q))⟩
  rintro ⟨x_72, σ_73⟩ _ y122
  try dsimp only at y122 ⊢
  obtain ⟨hσ_73, frσ_73, hsh2⟩ := y122
  try rw [hkσ_73]
  exact wp_some ⟨hσ_73, frσ_73, (by (try dsimp only) <;> (exact hsh2))⟩
