theorem s_O_putText {σ : SG} {text_0 : Nat} (hσ : II σ) (w0 : text_0 < 12) : wp_ (fO_putText σ text_0) (fun zz_ => II zz_ ∧ FC [kO_row, kO_size] [] σ zz_) := by
  unfold fO_putText
  have hsl := sLen_b text_0 w0
  have hch := sChr_b text_0
  refine wp_bd (P := fun rr_ => II rr_.2 ∧ FC [kO_row, kO_size] [] σ rr_.2 ∧ (True)) ?_ ?_
  · refine wp_whl (fun ss_ => II ss_.2 ∧ FC [kO_row, kO_size] [] σ ss_.2 ∧ (0 ≤ ss_.1 ∧ ss_.1 ≤ 90)) (fun ss_ => (91 - ss_.1).toNat) ⟨hσ, (FC_refl _ _ _), (by (try dsimp only) <;> first | assumption | omega | ((try simp (disch := omega) only [w32_of, w64_of, w8_of]) <;> first | assumption | omega | (split <;> omega) | (refine And.intro ?_ ?_ <;> split <;> omega)) | omega)⟩ ?_
    rintro ⟨i_1, σ_2⟩ y2
    try dsimp only at y2 ⊢
    obtain ⟨hσ_2, frσ_2, g1⟩ := y2
    have c4 := w32_rng i_1
    have c5 := w32_rng (sLen text_0)
    refine wp_if (fun c3 => ?_) (fun c3 => ?_)
    · try simp (disch := omega) only [w32_of, w64_of, w8_of, decide_eq_true_eq, decide_eq_false_iff_not, Bool.not_eq_true] at c3
      have hci := hch (w32 i_1)
      have hci2 := hch i_1
      refine wp_ck (by (try dsimp only) <;> first | assumption | omega | ((try simp (disch := omega) only [w32_of, w64_of, w8_of]) <;> first | assumption | omega | (split <;> omega) | (refine And.intro ?_ ?_ <;> split <;> omega)) | omega) ?_
      refine wp_bd (s_O_put (σ := σ_2) (value_0 := (sChr text_0 (w32 i_1))) hσ_2 (by (try dsimp only) <;> first | assumption | omega | ((try simp (disch := omega) only [w32_of, w64_of, w8_of]) <;> first | assumption | omega | (split <;> omega) | (refine And.intro ?_ ?_ <;> split <;> omega)) | omega)) ?_
      rintro σ_13 - ⟨hσ_13, flσ_13r⟩
      have flσ_13 := FC_of flσ_13r (by decide)
      have frσ_13 : FC [kO_row, kO_size] [] σ σ_13 := FC_tr frσ_2 flσ_13 (by first | decide | (rcases hE with rfl | rfl | rfl <;> decide)) (by first | decide | (rcases hE with rfl | rfl | rfl <;> decide)) (by simp) (by simp)
      exact wp_some (x_inl ⟨⟨hσ_13, frσ_13, (by (try dsimp only) <;> first | assumption | omega | ((try simp (disch := omega) only [w32_of, w64_of, w8_of]) <;> first | assumption | omega | (split <;> omega) | (refine And.intro ?_ ?_ <;> split <;> omega)) | omega)⟩, (by (try dsimp only) <;> first | assumption | omega | ((try simp (disch := omega) only [w32_of, w64_of, w8_of]) <;> first | assumption | omega | (split <;> omega) | (refine And.intro ?_ ?_ <;> split <;> omega)) | omega)⟩)
    · try simp (disch := omega) only [w32_of, w64_of, w8_of, decide_eq_true_eq, decide_eq_false_iff_not, Bool.not_eq_true] at c3
      exact wp_some (x_inr ⟨hσ_2, frσ_2, (by (try dsimp only) <;> first | assumption | omega | ((try simp (disch := omega) only [w32_of, w64_of, w8_of]) <;> first | assumption | omega | (split <;> omega) | (refine And.intro ?_ ?_ <;> split <;> omega)) | omega)⟩)
  rintro ⟨i_16, σ_17⟩ _ y7
  try dsimp only at y7 ⊢
  obtain ⟨hσ_17, frσ_17, g6⟩ := y7
  exact wp_some ⟨hσ_17, frσ_17⟩
theorem s_O_closeLevels {σ : SG} {open_0 : Int} (hσ : II σ) (w0 : 0 ≤ open_0 ∧ open_0 ≤ 64) : wp_ (fO_closeLevels σ open_0) (fun zz_ => II zz_.2 ∧ FC [kO_levelLeft, kO_row, kO_size] [] σ zz_.2 ∧ (0 ≤ zz_.1 ∧ zz_.1 ≤ 64)) := by
  unfold fO_closeLevels
  refine wp_bx (P := fun rr_ => II rr_.2 ∧ FC [kO_levelLeft, kO_row, kO_size] [] σ rr_.2) ?_ ?_
  · refine wp_whl (fun ss_ => II ss_.2 ∧ FC [kO_levelLeft, kO_row, kO_size] [] σ ss_.2 ∧ (0 ≤ ss_.1 ∧ ss_.1 ≤ 64)) (fun ss_ => ss_.1.toNat) ⟨hσ, (FC_refl _ _ _), (by (try dsimp only) <;> first | assumption | omega | ((try simp (disch := omega) only [w32_of, w64_of, w8_of]) <;> first | assumption | omega | (split <;> omega) | (refine And.intro ?_ ?_ <;> split <;> omega)) | omega)⟩ ?_
    rintro ⟨depth_1, σ_2⟩ y2
    try dsimp only at y2 ⊢
    obtain ⟨hσ_2, frσ_2, g1⟩ := y2
    have c4 := w32_rng depth_1
    refine wp_if (fun c3 => ?_) (fun c3 => ?_)
    · try simp (disch := omega) only [w32_of, w64_of, w8_of, decide_eq_true_eq, decide_eq_false_iff_not, Bool.not_eq_true] at c3
      have c5 := w32_rng (depth_1 - 1)
      refine wp_rdI (by (try dsimp only) <;> first | assumption | omega | ((try simp (disch := omega) only [w32_of, w64_of, w8_of]) <;> first | assumption | omega | (split <;> omega) | (refine And.intro ?_ ?_ <;> split <;> omega)) | omega) (by (try dsimp only) <;> first | assumption | omega | ((try simp (disch := omega) only [w32_of, w64_of, w8_of]) <;> first | assumption | omega | (split <;> omega) | (refine And.intro ?_ ?_ <;> split <;> omega)) | omega) (fun x_11 e_x_11 => ?_)
      try simp (disch := omega) only [w32_of, w64_of, w8_of] at e_x_11
      refine wp_waN hσ_2 b_kO_levelLeft (by (try dsimp only) <;> first | assumption | omega | ((try simp (disch := omega) only [w32_of, w64_of, w8_of]) <;> first | assumption | omega | (split <;> omega) | (refine And.intro ?_ ?_ <;> split <;> omega)) | omega) (by (try dsimp only) <;> first | assumption | omega | ((try simp (disch := omega) only [w32_of, w64_of, w8_of]) <;> first | assumption | omega | (split <;> omega) | (refine And.intro ?_ ?_ <;> split <;> omega)) | omega) (fun σ_13 hσ_13 eσ_13 => ?_)
      try simp (disch := omega) only [w32_of, w64_of, w8_of] at eσ_13
      have flσ_13 := FC_sg eσ_13 (by first | decide | (rcases hE with rfl | rfl | rfl <;> decide))
      have frσ_13 : FC [kO_levelLeft, kO_row, kO_size] [] σ σ_13 := FC_tr frσ_2 flσ_13 (by first | decide | (rcases hE with rfl | rfl | rfl <;> decide)) (by first | decide | (rcases hE with rfl | rfl | rfl <;> decide)) (by simp) (by simp)
      refine wp_rdI (by (try dsimp only) <;> first | assumption | omega | ((try simp (disch := omega) only [w32_of, w64_of, w8_of]) <;> first | assumption | omega | (split <;> omega) | (refine And.intro ?_ ?_ <;> split <;> omega)) | omega) (by (try dsimp only) <;> first | assumption | omega | ((try simp (disch := omega) only [w32_of, w64_of, w8_of]) <;> first | assumption | omega | (split <;> omega) | (refine And.intro ?_ ?_ <;> split <;> omega)) | omega) (fun x_15 e_x_15 => ?_)
      try simp (disch := omega) only [w32_of, w64_of, w8_of] at e_x_15
      have c6 := sg_val eσ_13
      have c8 := w32_rng x_15
      refine wp_if (fun c7 => ?_) (fun c7 => ?_)
      · try simp (disch := omega) only [w32_of, w64_of, w8_of, decide_eq_true_eq, decide_eq_false_iff_not, Bool.not_eq_true] at c7
        refine wp_bd (s_O_putText (σ := σ_13) (text_0 := 9) hσ_13 (by (try dsimp only) <;> first | assumption | omega | ((try simp (disch := omega) only [w32_of, w64_of, w8_of]) <;> first | assumption | omega | (split <;> omega) | (refine And.intro ?_ ?_ <;> split <;> omega)) | omega)) ?_
        rintro σ_19 - ⟨hσ_19, flσ_19⟩
        have frσ_19 : FC [kO_levelLeft, kO_row, kO_size] [] σ σ_19 := FC_tr frσ_13 flσ_19 (by first | decide | (rcases hE with rfl | rfl | rfl <;> decide)) (by first | decide | (rcases hE with rfl | rfl | rfl <;> decide)) (by simp) (by simp)
        exact wp_some (x_inr (x_inr ⟨hσ_19, frσ_19, (by (try dsimp only) <;> first | assumption | omega | ((try simp (disch := omega) only [w32_of, w64_of, w8_of]) <;> first | assumption | omega | (split <;> omega) | (refine And.intro ?_ ?_ <;> split <;> omega)) | omega)⟩))
      · try simp (disch := omega) only [w32_of, w64_of, w8_of, decide_eq_true_eq, decide_eq_false_iff_not, Bool.not_eq_true] at c7
        refine wp_bd (s_O_put (σ := σ_13) (value_0 := 41) hσ_13 (by (try dsimp only) <;> first | assumption | omega | ((try simp (disch := omega) only [w32_of, w64_of, w8_of]) <;> first | assumption | omega | (split <;> omega) | (refine And.intro ?_ ?_ <;> split <;> omega)) | omega)) ?_
        rintro σ_21 - ⟨hσ_21, flσ_21r⟩
        have flσ_21 := FC_of flσ_21r (by decide)
        have frσ_21 : FC [kO_levelLeft, kO_row, kO_size] [] σ σ_21 := FC_tr frσ_13 flσ_21 (by first | decide | (rcases hE with rfl | rfl | rfl <;> decide)) (by first | decide | (rcases hE with rfl | rfl | rfl <;> decide)) (by simp) (by simp)
        exact wp_some (x_inl ⟨⟨hσ_21, frσ_21, (by (try dsimp only) <;> first | assumption | omega | ((try simp (disch := omega) only [w32_of, w64_of, w8_of]) <;> first | assumption | omega | (split <;> omega) | (refine And.intro ?_ ?_ <;> split <;> omega)) | omega)⟩, (by (try dsimp only) <;> first | assumption | omega | ((try simp (disch := omega) only [w32_of, w64_of, w8_of]) <;> first | assumption | omega | (split <;> omega) | (refine And.intro ?_ ?_ <;> split <;> omega)) | omega)⟩)
    · try simp (disch := omega) only [w32_of, w64_of, w8_of, decide_eq_true_eq, decide_eq_false_iff_not, Bool.not_eq_true] at c3
      exact wp_some (x_inr (x_inl ⟨hσ_2, frσ_2⟩))
  rintro ⟨depth_24, σ_25⟩ y9
  try dsimp only at y9 ⊢
  obtain ⟨hσ_25, frσ_25⟩ := y9
  exact wp_some ⟨hσ_25, frσ_25, (by (try dsimp only) <;> first | assumption | omega | ((try simp (disch := omega) only [w32_of, w64_of, w8_of]) <;> first | assumption | omega | (split <;> omega) | (refine And.intro ?_ ?_ <;> split <;> omega)) | omega)⟩
theorem s_O_putNumber {σ : SG} {units_0 : Int} (hσ : II σ) (w0 : -1000000000 ≤ units_0 ∧ units_0 ≤ 1000000000) : wp_ (fO_putNumber σ units_0) (fun zz_ => II zz_ ∧ FC [kO_row, kO_size] [] σ zz_) := by
  unfold fO_putNumber
  have habs := q_abi_bd units_0
  rw [w32_of (x := units_0) (by omega) (by omega)] at habs
  refine wp_bd (P := fun rr_ => II rr_ ∧ FC [kO_row, kO_size] [] σ rr_ ∧ (True)) ?_ ?_
  · have c2 := w32_rng units_0
    refine wp_if (fun c1 => ?_) (fun c1 => ?_)
    · try simp (disch := omega) only [w32_of, w64_of, w8_of, decide_eq_true_eq, decide_eq_false_iff_not, Bool.not_eq_true] at c1
      refine wp_bd (s_O_put (σ := σ) (value_0 := 45) hσ (by (try dsimp only) <;> first | assumption | omega | ((try simp (disch := omega) only [w32_of, w64_of, w8_of]) <;> first | assumption | omega | (split <;> omega) | (refine And.intro ?_ ?_ <;> split <;> omega)) | omega)) ?_
      rintro σ_7 - ⟨hσ_7, flσ_7r⟩
      have flσ_7 := FC_of flσ_7r (by decide)
      have frσ_7 : FC [kO_row, kO_size] [] σ σ_7 := FC_le flσ_7 (by first | decide | (rcases hE with rfl | rfl | rfl <;> decide)) (by simp)
      exact wp_some ⟨hσ_7, frσ_7, (by (try dsimp only) <;> first | assumption | omega | ((try simp (disch := omega) only [w32_of, w64_of, w8_of]) <;> first | assumption | omega | (split <;> omega) | (refine And.intro ?_ ?_ <;> split <;> omega)) | omega)⟩
    · try simp (disch := omega) only [w32_of, w64_of, w8_of, decide_eq_true_eq, decide_eq_false_iff_not, Bool.not_eq_true] at c1
      exact wp_some ⟨hσ, (FC_refl _ _ _), (by (try dsimp only) <;> first | assumption | omega | ((try simp (disch := omega) only [w32_of, w64_of, w8_of]) <;> first | assumption | omega | (split <;> omega) | (refine And.intro ?_ ?_ <;> split <;> omega)) | omega)⟩
  rintro σ_10 _ ⟨hσ_10, frσ_10, g3⟩
  have hdg := ii_kO_digits hσ_10 0
  have hun := uNit_b (x := w32 (σ_10 kO_digits 0)) (by rw [w32_of (by omega) (by omega)]; omega)
  have hun2 := uNit_b (x := (σ_10 kO_digits 0)) (by omega)
  have c4 := ii_kO_digits hσ_10 0
  have c5 := FC_at frσ_10 (c := kO_digits) (by first | decide | (rcases hE with rfl | rfl | rfl <;> decide)) 0
  have c6 := ii_kO_digits hσ 0
  have c7 := w32_rng (σ_10 kO_digits 0)
  refine wp_ck (by (try dsimp only) <;> first | assumption | omega | ((try simp (disch := omega) only [w32_of, w64_of, w8_of]) <;> first | assumption | omega | (split <;> omega) | (refine And.intro ?_ ?_ <;> split <;> omega)) | omega) ?_
  have c8 := w32_rng (uNit (w32 (σ_10 kO_digits 0)))
  refine wp_ck (by (try dsimp only) <;> first | assumption | omega | ((try simp (disch := omega) only [w32_of, w64_of, w8_of]) <;> first | assumption | omega | (split <;> omega) | (refine And.intro ?_ ?_ <;> split <;> omega)) | omega) ?_
  refine wp_bd (P := fun rr_ => II rr_.2 ∧ FC [kO_row, kO_size] [] σ rr_.2 ∧ (True)) ?_ ?_
  · refine wp_whl (fun ss_ => II ss_.2 ∧ FC [kO_row, kO_size] [] σ ss_.2 ∧ (0 ≤ ss_.1 ∧ ss_.1 ≤ 1000000000)) (fun ss_ => ss_.1.toNat) ⟨hσ_10, frσ_10, (by (try dsimp only) <;> first | assumption | omega | ((try simp (disch := omega) only [w32_of, w64_of, w8_of]) <;> first | assumption | omega | (split <;> omega) | (refine And.intro ?_ ?_ <;> split <;> omega)) | omega)⟩ ?_
    rintro ⟨step_13, σ_14⟩ y10
    try dsimp only at y10 ⊢
    obtain ⟨hσ_14, frσ_14, g9⟩ := y10
    have c12 := w32_rng step_13
    refine wp_if (fun c11 => ?_) (fun c11 => ?_)
    · try simp (disch := omega) only [w32_of, w64_of, w8_of, decide_eq_true_eq, decide_eq_false_iff_not, Bool.not_eq_true] at c11
      refine wp_bd (P := fun rr_ => II rr_ ∧ FC [kO_row, kO_size] [] σ rr_) ?_ ?_
      · have c14 := q_abi_bd units_0
        try simp (disch := omega) only [w32_of, w64_of, w8_of] at c14
        have c15 := q_idv_bd (q_abi units_0) (uNit (w32 (σ_10 kO_digits 0))) (by (try dsimp only) <;> first | assumption | omega | ((try simp (disch := omega) only [w32_of, w64_of, w8_of]) <;> first | assumption | omega | (split <;> omega) | (refine And.intro ?_ ?_ <;> split <;> omega)) | omega) (by (try dsimp only) <;> first | assumption | omega | ((try simp (disch := omega) only [w32_of, w64_of, w8_of]) <;> first | assumption | omega | (split <;> omega) | (refine And.intro ?_ ?_ <;> split <;> omega)) | omega)
        try simp (disch := omega) only [w32_of, w64_of, w8_of] at c15
        have c16 := w32_rng (q_idv (q_abi units_0) (uNit (w32 (σ_10 kO_digits 0))))
        refine wp_if (fun c13 => ?_) (fun c13 => ?_)
        · try simp (disch := omega) only [w32_of, w64_of, w8_of, decide_eq_true_eq, decide_eq_false_iff_not, Bool.not_eq_true] at c13
          refine wp_ck (by (try dsimp only) <;> first | assumption | omega | ((try simp (disch := omega) only [w32_of, w64_of, w8_of]) <;> first | assumption | omega | (split <;> omega) | (refine And.intro ?_ ?_ <;> split <;> omega)) | omega) ?_
          have c17 := q_idv_bd (q_idv (q_abi units_0) (uNit (w32 (σ_10 kO_digits 0)))) step_13 (by (try dsimp only) <;> first | assumption | omega | ((try simp (disch := omega) only [w32_of, w64_of, w8_of]) <;> first | assumption | omega | (split <;> omega) | (refine And.intro ?_ ?_ <;> split <;> omega)) | omega) (by (try dsimp only) <;> first | assumption | omega | ((try simp (disch := omega) only [w32_of, w64_of, w8_of]) <;> first | assumption | omega | (split <;> omega) | (refine And.intro ?_ ?_ <;> split <;> omega)) | omega)
          try simp (disch := omega) only [w32_of, w64_of, w8_of] at c17
          have c18 := q_irm_bd (q_idv (q_idv (q_abi units_0) (uNit (w32 (σ_10 kO_digits 0)))) step_13) 10 (by (try dsimp only) <;> first | assumption | omega | ((try simp (disch := omega) only [w32_of, w64_of, w8_of]) <;> first | assumption | omega | (split <;> omega) | (refine And.intro ?_ ?_ <;> split <;> omega)) | omega)
          try simp (disch := omega) only [w32_of, w64_of, w8_of] at c18
          refine wp_bd (s_O_put (σ := σ_14) (value_0 := (48 + (q_irm (q_idv (q_idv (q_abi units_0) (uNit (w32 (σ_10 kO_digits 0)))) step_13) 10))) hσ_14 (by (try dsimp only) <;> first | assumption | omega | ((try simp (disch := omega) only [w32_of, w64_of, w8_of]) <;> first | assumption | omega | (split <;> omega) | (refine And.intro ?_ ?_ <;> split <;> omega)) | omega)) ?_
          rintro σ_29 - ⟨hσ_29, flσ_29r⟩
          have flσ_29 := FC_of flσ_29r (by decide)
          have frσ_29 : FC [kO_row, kO_size] [] σ σ_29 := FC_tr frσ_14 flσ_29 (by first | decide | (rcases hE with rfl | rfl | rfl <;> decide)) (by first | decide | (rcases hE with rfl | rfl | rfl <;> decide)) (by simp) (by simp)
          exact wp_some ⟨hσ_29, frσ_29⟩
        · try simp (disch := omega) only [w32_of, w64_of, w8_of, decide_eq_true_eq, decide_eq_false_iff_not, Bool.not_eq_true] at c13
          exact wp_some ⟨hσ_14, frσ_14⟩
      rintro σ_39 _ ⟨hσ_39, frσ_39⟩
      have hs10 := q_idv10 (x := step_13) (by omega) (by omega)
      exact wp_some (x_inl ⟨⟨hσ_39, frσ_39, (by (try dsimp only) <;> first | assumption | omega | ((try simp (disch := omega) only [w32_of, w64_of, w8_of]) <;> first | assumption | omega | (split <;> omega) | (refine And.intro ?_ ?_ <;> split <;> omega)) | omega)⟩, (by (try dsimp only) <;> first | assumption | omega | ((try simp (disch := omega) only [w32_of, w64_of, w8_of]) <;> first | assumption | omega | (split <;> omega) | (refine And.intro ?_ ?_ <;> split <;> omega)) | omega)⟩)
    · try simp (disch := omega) only [w32_of, w64_of, w8_of, decide_eq_true_eq, decide_eq_false_iff_not, Bool.not_eq_true] at c11
      exact wp_some (x_inr ⟨hσ_14, frσ_14, (by (try dsimp only) <;> first | assumption | omega | ((try simp (disch := omega) only [w32_of, w64_of, w8_of]) <;> first | assumption | omega | (split <;> omega) | (refine And.intro ?_ ?_ <;> split <;> omega)) | omega)⟩)
  rintro ⟨step_43, σ_44⟩ _ y20
  try dsimp only at y20 ⊢
  obtain ⟨hσ_44, frσ_44, g19⟩ := y20
  have hrm := q_irm_bd (q_abi units_0) (uNit (w32 (σ_10 kO_digits 0))) (by rw [w32_of (by omega) (by omega)]; omega)
  rw [w32_of (x := uNit (w32 (σ_10 kO_digits 0))) (by omega) (by omega), w32_of (x := q_abi units_0) (by omega) (by omega)] at hrm
  have hd0 := q_idv10 (x := uNit (w32 (σ_10 kO_digits 0))) (by omega) (by omega)
  refine wp_ck (by (try dsimp only) <;> first | assumption | omega | ((try simp (disch := omega) only [w32_of, w64_of, w8_of]) <;> first | assumption | omega | (split <;> omega) | (refine And.intro ?_ ?_ <;> split <;> omega)) | omega) ?_
  refine wp_bd (P := fun rr_ => II rr_ ∧ FC [kO_row, kO_size] [] σ rr_ ∧ (True)) ?_ ?_
  · have c22 := q_abi_bd units_0
    try simp (disch := omega) only [w32_of, w64_of, w8_of] at c22
    have c23 := q_irm_bd (q_abi units_0) (uNit (w32 (σ_10 kO_digits 0))) (by (try dsimp only) <;> first | assumption | omega | ((try simp (disch := omega) only [w32_of, w64_of, w8_of]) <;> first | assumption | omega | (split <;> omega) | (refine And.intro ?_ ?_ <;> split <;> omega)) | omega)
    try simp (disch := omega) only [w32_of, w64_of, w8_of] at c23
    have c24 := w32_rng (q_irm (q_abi units_0) (uNit (w32 (σ_10 kO_digits 0))))
    refine wp_if (fun c21 => ?_) (fun c21 => ?_)
    · try simp (disch := omega) only [w32_of, w64_of, w8_of, decide_eq_true_eq, decide_eq_false_iff_not, Bool.not_eq_true] at c21
      refine wp_bd (s_O_put (σ := σ_44) (value_0 := 46) hσ_44 (by (try dsimp only) <;> first | assumption | omega | ((try simp (disch := omega) only [w32_of, w64_of, w8_of]) <;> first | assumption | omega | (split <;> omega) | (refine And.intro ?_ ?_ <;> split <;> omega)) | omega)) ?_
      rintro σ_52 - ⟨hσ_52, flσ_52r⟩
      have flσ_52 := FC_of flσ_52r (by decide)
      have frσ_52 : FC [kO_row, kO_size] [] σ σ_52 := FC_tr frσ_44 flσ_52 (by first | decide | (rcases hE with rfl | rfl | rfl <;> decide)) (by first | decide | (rcases hE with rfl | rfl | rfl <;> decide)) (by simp) (by simp)
      exact wp_some ⟨hσ_52, frσ_52, (by (try dsimp only) <;> first | assumption | omega | ((try simp (disch := omega) only [w32_of, w64_of, w8_of]) <;> first | assumption | omega | (split <;> omega) | (refine And.intro ?_ ?_ <;> split <;> omega)) | omega)⟩
    · try simp (disch := omega) only [w32_of, w64_of, w8_of, decide_eq_true_eq, decide_eq_false_iff_not, Bool.not_eq_true] at c21
      exact wp_some ⟨hσ_44, frσ_44, (by (try dsimp only) <;> first | assumption | omega | ((try simp (disch := omega) only [w32_of, w64_of, w8_of]) <;> first | assumption | omega | (split <;> omega) | (refine And.intro ?_ ?_ <;> split <;> omega)) | omega)⟩
  rintro σ_55 _ ⟨hσ_55, frσ_55, g25⟩
  refine wp_bd (P := fun rr_ => II rr_.2.2 ∧ FC [kO_row, kO_size] [] σ rr_.2.2 ∧ (True)) ?_ ?_
  · refine wp_whl (fun ss_ => II ss_.2.2 ∧ FC [kO_row, kO_size] [] σ ss_.2.2 ∧ (0 ≤ ss_.1 ∧ ss_.1 ≤ 1000) ∧ (0 ≤ ss_.2.1 ∧ ss_.2.1 ≤ 1000)) (fun ss_ => ss_.2.1.toNat) ⟨hσ_55, frσ_55, (by (try dsimp only) <;> first | assumption | omega | ((try simp (disch := omega) only [w32_of, w64_of, w8_of]) <;> first | assumption | omega | (split <;> omega) | (refine And.intro ?_ ?_ <;> split <;> omega)) | omega), (by (try dsimp only) <;> first | assumption | omega | ((try simp (disch := omega) only [w32_of, w64_of, w8_of]) <;> first | assumption | omega | (split <;> omega) | (refine And.intro ?_ ?_ <;> split <;> omega)) | omega)⟩ ?_
    rintro ⟨rest_56, step_57, σ_58⟩ y28
    try dsimp only at y28 ⊢
    obtain ⟨hσ_58, frσ_58, g26, g27⟩ := y28
    have c30 := w32_rng step_57
    have c31 := w32_rng rest_56
    refine wp_if (fun c29 => ?_) (fun c29 => ?_)
    · try simp (disch := omega) only [w32_of, w64_of, w8_of, decide_eq_true_eq, decide_eq_false_iff_not, Bool.not_eq_true] at c29
      refine wp_ck (by (try dsimp only) <;> first | assumption | omega | ((try simp (disch := omega) only [w32_of, w64_of, w8_of]) <;> first | assumption | omega | (split <;> omega) | (refine And.intro ?_ ?_ <;> split <;> omega)) | omega) ?_
      have c32 := q_idv_bd rest_56 step_57 (by (try dsimp only) <;> first | assumption | omega | ((try simp (disch := omega) only [w32_of, w64_of, w8_of]) <;> first | assumption | omega | (split <;> omega) | (refine And.intro ?_ ?_ <;> split <;> omega)) | omega) (by (try dsimp only) <;> first | assumption | omega | ((try simp (disch := omega) only [w32_of, w64_of, w8_of]) <;> first | assumption | omega | (split <;> omega) | (refine And.intro ?_ ?_ <;> split <;> omega)) | omega)
      try simp (disch := omega) only [w32_of, w64_of, w8_of] at c32
      refine wp_bd (s_O_put (σ := σ_58) (value_0 := (48 + (q_idv rest_56 step_57))) hσ_58 (by (try dsimp only) <;> first | assumption | omega | ((try simp (disch := omega) only [w32_of, w64_of, w8_of]) <;> first | assumption | omega | (split <;> omega) | (refine And.intro ?_ ?_ <;> split <;> omega)) | omega)) ?_
      rintro σ_68 - ⟨hσ_68, flσ_68r⟩
      have flσ_68 := FC_of flσ_68r (by decide)
      have frσ_68 : FC [kO_row, kO_size] [] σ σ_68 := FC_tr frσ_58 flσ_68 (by first | decide | (rcases hE with rfl | rfl | rfl <;> decide)) (by first | decide | (rcases hE with rfl | rfl | rfl <;> decide)) (by simp) (by simp)
      refine wp_ck (by (try dsimp only) <;> first | assumption | omega | ((try simp (disch := omega) only [w32_of, w64_of, w8_of]) <;> first | assumption | omega | (split <;> omega) | (refine And.intro ?_ ?_ <;> split <;> omega)) | omega) ?_
      have hs10 := q_idv10 (x := step_57) (by omega) (by omega)
      have hr5 := q_irm_bd rest_56 step_57 (by rw [w32_of (by omega) (by omega)]; omega)
      rw [w32_of (x := step_57) (by omega) (by omega), w32_of (x := rest_56) (by omega) (by omega)] at hr5
      exact wp_some (x_inl ⟨⟨hσ_68, frσ_68, (by (try dsimp only) <;> first | assumption | omega | ((try simp (disch := omega) only [w32_of, w64_of, w8_of]) <;> first | assumption | omega | (split <;> omega) | (refine And.intro ?_ ?_ <;> split <;> omega)) | omega), (by (try dsimp only) <;> first | assumption | omega | ((try simp (disch := omega) only [w32_of, w64_of, w8_of]) <;> first | assumption | omega | (split <;> omega) | (refine And.intro ?_ ?_ <;> split <;> omega)) | omega)⟩, (by (try dsimp only) <;> first | assumption | omega | ((try simp (disch := omega) only [w32_of, w64_of, w8_of]) <;> first | assumption | omega | (split <;> omega) | (refine And.intro ?_ ?_ <;> split <;> omega)) | omega)⟩)
    · try simp (disch := omega) only [w32_of, w64_of, w8_of, decide_eq_true_eq, decide_eq_false_iff_not, Bool.not_eq_true] at c29
      exact wp_some (x_inr ⟨hσ_58, frσ_58, (by (try dsimp only) <;> first | assumption | omega | ((try simp (disch := omega) only [w32_of, w64_of, w8_of]) <;> first | assumption | omega | (split <;> omega) | (refine And.intro ?_ ?_ <;> split <;> omega)) | omega)⟩)
  rintro ⟨rest_79, step_80, σ_81⟩ _ y34
  try dsimp only at y34 ⊢
  obtain ⟨hσ_81, frσ_81, g33⟩ := y34
  exact wp_some ⟨hσ_81, frσ_81⟩
theorem s_O_putCoordinates {σ : SG} {shape_0 : Nat} {from_0 : Int} {length_0 : Int} (hσ : II σ) (hs_shape_0 : isS shape_0) (w0 : 0 ≤ from_0 ∧ 0 ≤ length_0 ∧ from_0 + length_0 ≤ 2048) : wp_ (fO_putCoordinates σ shape_0 from_0 length_0) (fun zz_ => II zz_ ∧ FC [kO_row, kO_size] [] σ zz_) := by
  unfold fO_putCoordinates
  refine wp_bd (s_O_put (σ := σ) (value_0 := 40) hσ (by (try dsimp only) <;> first | assumption | omega | ((try simp (disch := omega) only [w32_of, w64_of, w8_of]) <;> first | assumption | omega | (split <;> omega) | (refine And.intro ?_ ?_ <;> split <;> omega)) | omega)) ?_
  rintro σ_2 - ⟨hσ_2, flσ_2r⟩
  have flσ_2 := FC_of flσ_2r (by decide)
  have frσ_2 : FC [kO_row, kO_size] [] σ σ_2 := FC_le flσ_2 (by first | decide | (rcases hE with rfl | rfl | rfl <;> decide)) (by simp)
  refine wp_bd (P := fun rr_ => II rr_.2 ∧ FC [kO_row, kO_size] [] σ rr_.2 ∧ (True)) ?_ ?_
  · refine wp_whl (fun ss_ => II ss_.2 ∧ FC [kO_row, kO_size] [] σ ss_.2 ∧ (0 ≤ ss_.1 ∧ ss_.1 ≤ length_0)) (fun ss_ => (length_0 - ss_.1).toNat) ⟨hσ_2, frσ_2, (by (try dsimp only) <;> first | assumption | omega | ((try simp (disch := omega) only [w32_of, w64_of, w8_of]) <;> first | assumption | omega | (split <;> omega) | (refine And.intro ?_ ?_ <;> split <;> omega)) | omega)⟩ ?_
    rintro ⟨i_3, σ_4⟩ y2
    try dsimp only at y2 ⊢
    obtain ⟨hσ_4, frσ_4, g1⟩ := y2
    have c4 := w32_rng i_3
    have c5 := w32_rng length_0
    refine wp_if (fun c3 => ?_) (fun c3 => ?_)
    · try simp (disch := omega) only [w32_of, w64_of, w8_of, decide_eq_true_eq, decide_eq_false_iff_not, Bool.not_eq_true] at c3
      refine wp_bd (P := fun rr_ => II rr_ ∧ FC [kO_row, kO_size] [] σ rr_) ?_ ?_
      · refine wp_if (fun c6 => ?_) (fun c6 => ?_)
        · try simp (disch := omega) only [w32_of, w64_of, w8_of, decide_eq_true_eq, decide_eq_false_iff_not, Bool.not_eq_true] at c6
          refine wp_bd (s_O_putText (σ := σ_4) (text_0 := 9) hσ_4 (by (try dsimp only) <;> first | assumption | omega | ((try simp (disch := omega) only [w32_of, w64_of, w8_of]) <;> first | assumption | omega | (split <;> omega) | (refine And.intro ?_ ?_ <;> split <;> omega)) | omega)) ?_
          rintro σ_19 - ⟨hσ_19, flσ_19⟩
          have frσ_19 : FC [kO_row, kO_size] [] σ σ_19 := FC_tr frσ_4 flσ_19 (by first | decide | (rcases hE with rfl | rfl | rfl <;> decide)) (by first | decide | (rcases hE with rfl | rfl | rfl <;> decide)) (by simp) (by simp)
          exact wp_some ⟨hσ_19, frσ_19⟩
        · try simp (disch := omega) only [w32_of, w64_of, w8_of, decide_eq_true_eq, decide_eq_false_iff_not, Bool.not_eq_true] at c6
          exact wp_some ⟨hσ_4, frσ_4⟩
      rintro σ_22 _ ⟨hσ_22, frσ_22⟩
      have c7 := w32_rng (from_0 + i_3)
      refine wp_rdI (by (try dsimp only) <;> first | assumption | omega | ((try simp (disch := omega) only [w32_of, w64_of, w8_of]) <;> first | assumption | omega | (split <;> omega) | (refine And.intro ?_ ?_ <;> split <;> omega)) | omega) (by (try dsimp only) <;> first | assumption | omega | ((try simp (disch := omega) only [w32_of, w64_of, w8_of]) <;> first | assumption | omega | (split <;> omega) | (refine And.intro ?_ ?_ <;> split <;> omega)) | omega) (fun x_23 e_x_23 => ?_)
      have b_x_23 : (-1000000000) ≤ x_23 ∧ x_23 ≤ 1000000000 := by rw [e_x_23]; exact iiA_x (s := shape_0) hσ_22 (by first | assumption | decide | omega) _
      rw [FC_x (t := shape_0) frσ_22 (by first | assumption | decide | omega) (NS_0 _)] at e_x_23
      try simp (disch := omega) only [w32_of, w64_of, w8_of] at e_x_23
      have c8 := iiA_x (s := shape_0) hσ_22 (by first | assumption | decide | omega) (from_0 + i_3)
      have c9 := congrFun (FC_x (t := shape_0) frσ_22 (by first | assumption | decide | omega) (NS_0 _)) (from_0 + i_3)
      have c10 := iiA_x (s := shape_0) hσ (by first | assumption | decide | omega) (from_0 + i_3)
      refine wp_bd (s_O_putNumber (σ := σ_22) (units_0 := x_23) hσ_22 (by (try dsimp only) <;> first | assumption | omega | ((try simp (disch := omega) only [w32_of, w64_of, w8_of]) <;> first | assumption | omega | (split <;> omega) | (refine And.intro ?_ ?_ <;> split <;> omega)) | omega)) ?_
      rintro σ_26 - ⟨hσ_26, flσ_26⟩
      have frσ_26 : FC [kO_row, kO_size] [] σ σ_26 := FC_tr frσ_22 flσ_26 (by first | decide | (rcases hE with rfl | rfl | rfl <;> decide)) (by first | decide | (rcases hE with rfl | rfl | rfl <;> decide)) (by simp) (by simp)
      refine wp_bd (s_O_put (σ := σ_26) (value_0 := 32) hσ_26 (by (try dsimp only) <;> first | assumption | omega | ((try simp (disch := omega) only [w32_of, w64_of, w8_of]) <;> first | assumption | omega | (split <;> omega) | (refine And.intro ?_ ?_ <;> split <;> omega)) | omega)) ?_
      rintro σ_28 - ⟨hσ_28, flσ_28r⟩
      have flσ_28 := FC_of flσ_28r (by decide)
      have frσ_28 : FC [kO_row, kO_size] [] σ σ_28 := FC_tr frσ_26 flσ_28 (by first | decide | (rcases hE with rfl | rfl | rfl <;> decide)) (by first | decide | (rcases hE with rfl | rfl | rfl <;> decide)) (by simp) (by simp)
      refine wp_rdI (by (try dsimp only) <;> first | assumption | omega | ((try simp (disch := omega) only [w32_of, w64_of, w8_of]) <;> first | assumption | omega | (split <;> omega) | (refine And.intro ?_ ?_ <;> split <;> omega)) | omega) (by (try dsimp only) <;> first | assumption | omega | ((try simp (disch := omega) only [w32_of, w64_of, w8_of]) <;> first | assumption | omega | (split <;> omega) | (refine And.intro ?_ ?_ <;> split <;> omega)) | omega) (fun x_29 e_x_29 => ?_)
      have b_x_29 : (-1000000000) ≤ x_29 ∧ x_29 ≤ 1000000000 := by rw [e_x_29]; exact iiA_y (s := shape_0) hσ_28 (by first | assumption | decide | omega) _
      rw [FC_y (t := shape_0) frσ_28 (by first | assumption | decide | omega) (NS_0 _)] at e_x_29
      try simp (disch := omega) only [w32_of, w64_of, w8_of] at e_x_29
      have c11 := iiA_y (s := shape_0) hσ_28 (by first | assumption | decide | omega) (from_0 + i_3)
      have c12 := congrFun (FC_y (t := shape_0) flσ_28 (by first | assumption | decide | omega) (NS_0 _)) (from_0 + i_3)
      have c13 := iiA_y (s := shape_0) hσ_26 (by first | assumption | decide | omega) (from_0 + i_3)
      have c14 := congrFun (FC_y (t := shape_0) flσ_26 (by first | assumption | decide | omega) (NS_0 _)) (from_0 + i_3)
      have c15 := iiA_y (s := shape_0) hσ_22 (by first | assumption | decide | omega) (from_0 + i_3)
      have c16 := congrFun (FC_y (t := shape_0) frσ_22 (by first | assumption | decide | omega) (NS_0 _)) (from_0 + i_3)
      have c17 := iiA_y (s := shape_0) hσ (by first | assumption | decide | omega) (from_0 + i_3)
      refine wp_bd (s_O_putNumber (σ := σ_28) (units_0 := x_29) hσ_28 (by (try dsimp only) <;> first | assumption | omega | ((try simp (disch := omega) only [w32_of, w64_of, w8_of]) <;> first | assumption | omega | (split <;> omega) | (refine And.intro ?_ ?_ <;> split <;> omega)) | omega)) ?_
      rintro σ_32 - ⟨hσ_32, flσ_32⟩
      have frσ_32 : FC [kO_row, kO_size] [] σ σ_32 := FC_tr frσ_28 flσ_32 (by first | decide | (rcases hE with rfl | rfl | rfl <;> decide)) (by first | decide | (rcases hE with rfl | rfl | rfl <;> decide)) (by simp) (by simp)
      exact wp_some (x_inl ⟨⟨hσ_32, frσ_32, (by (try dsimp only) <;> first | assumption | omega | ((try simp (disch := omega) only [w32_of, w64_of, w8_of]) <;> first | assumption | omega | (split <;> omega) | (refine And.intro ?_ ?_ <;> split <;> omega)) | omega)⟩, (by (try dsimp only) <;> first | assumption | omega | ((try simp (disch := omega) only [w32_of, w64_of, w8_of]) <;> first | assumption | omega | (split <;> omega) | (refine And.intro ?_ ?_ <;> split <;> omega)) | omega)⟩)
    · try simp (disch := omega) only [w32_of, w64_of, w8_of, decide_eq_true_eq, decide_eq_false_iff_not, Bool.not_eq_true] at c3
      exact wp_some (x_inr ⟨hσ_4, frσ_4, (by (try dsimp only) <;> first | assumption | omega | ((try simp (disch := omega) only [w32_of, w64_of, w8_of]) <;> first | assumption | omega | (split <;> omega) | (refine And.intro ?_ ?_ <;> split <;> omega)) | omega)⟩)
  rintro ⟨i_36, σ_37⟩ _ y19
  try dsimp only at y19 ⊢
  obtain ⟨hσ_37, frσ_37, g18⟩ := y19
  refine wp_bd (s_O_put (σ := σ_37) (value_0 := 41) hσ_37 (by (try dsimp only) <;> first | assumption | omega | ((try simp (disch := omega) only [w32_of, w64_of, w8_of]) <;> first | assumption | omega | (split <;> omega) | (refine And.intro ?_ ?_ <;> split <;> omega)) | omega)) ?_
  rintro σ_39 - ⟨hσ_39, flσ_39r⟩
  have flσ_39 := FC_of flσ_39r (by decide)
  have frσ_39 : FC [kO_row, kO_size] [] σ σ_39 := FC_tr frσ_37 flσ_39 (by first | decide | (rcases hE with rfl | rfl | rfl <;> decide)) (by first | decide | (rcases hE with rfl | rfl | rfl <;> decide)) (by simp) (by simp)
  exact wp_some ⟨hσ_39, frσ_39⟩
theorem s_O_putRows {σ : SG} {shape_0 : Nat} {at_0 : Int} {from_0 : Int} (hσ : II σ) (hs_shape_0 : isS shape_0) (w0 : ENa σ shape_0 at_0) (w1 : 0 ≤ from_0) (w2 : from_0 + eP (σ (kA_plan shape_0)) at_0 ≤ 2048) : wp_ (fO_putRows σ shape_0 at_0 from_0) (fun zz_ => II zz_ ∧ FC [kO_row, kO_size] [] σ zz_) := by
  unfold fO_putRows
  obtain ⟨ho, h0, h1, h2⟩ := id w0
  have hRe := rS_end ho
  have hpl := iiA_plans hσ hs_shape_0 0
  have hpt := iiA_points hσ hs_shape_0 0
  have hel := eL_2 ho
  have c1 := w32_rng (at_0 + 1)
  refine wp_rdI (by (try dsimp only) <;> first | assumption | omega | ((try simp (disch := omega) only [w32_of, w64_of, w8_of]) <;> first | assumption | omega | (split <;> omega) | (refine And.intro ?_ ?_ <;> split <;> omega)) | omega) (by (try dsimp only) <;> first | assumption | omega | ((try simp (disch := omega) only [w32_of, w64_of, w8_of]) <;> first | assumption | omega | (split <;> omega) | (refine And.intro ?_ ?_ <;> split <;> omega)) | omega) (fun x_1 e_x_1 => ?_)
  try simp (disch := omega) only [w32_of, w64_of, w8_of] at e_x_1
  have c3 := w32_rng x_1
  refine wp_if (fun c2 => ?_) (fun c2 => ?_)
  · try simp (disch := omega) only [w32_of, w64_of, w8_of, decide_eq_true_eq, decide_eq_false_iff_not, Bool.not_eq_true] at c2
    refine wp_bd (s_O_putText (σ := σ) (text_0 := 8) hσ (by (try dsimp only) <;> first | assumption | omega | ((try simp (disch := omega) only [w32_of, w64_of, w8_of]) <;> first | assumption | omega | (split <;> omega) | (refine And.intro ?_ ?_ <;> split <;> omega)) | omega)) ?_
    rintro σ_5 - ⟨hσ_5, flσ_5⟩
    have frσ_5 : FC [kO_row, kO_size] [] σ σ_5 := FC_le flσ_5 (by first | decide | (rcases hE with rfl | rfl | rfl <;> decide)) (by simp)
    exact wp_some ⟨hσ_5, frσ_5⟩
  · try simp (disch := omega) only [w32_of, w64_of, w8_of, decide_eq_true_eq, decide_eq_false_iff_not, Bool.not_eq_true] at c2
    refine wp_bd (P := fun rr_ => True) ?_ ?_
    · have c4 := w32_rng at_0
      refine wp_rdI (by (try dsimp only) <;> first | assumption | omega | ((try simp (disch := omega) only [w32_of, w64_of, w8_of]) <;> first | assumption | omega | (split <;> omega) | (refine And.intro ?_ ?_ <;> split <;> omega)) | omega) (by (try dsimp only) <;> first | assumption | omega | ((try simp (disch := omega) only [w32_of, w64_of, w8_of]) <;> first | assumption | omega | (split <;> omega) | (refine And.intro ?_ ?_ <;> split <;> omega)) | omega) (fun x_6 e_x_6 => ?_)
      try simp (disch := omega) only [w32_of, w64_of, w8_of] at e_x_6
      have c6 := w32_rng x_6
      refine wp_if (fun c5 => ?_) (fun c5 => ?_)
      · try simp (disch := omega) only [w32_of, w64_of, w8_of, decide_eq_true_eq, decide_eq_false_iff_not, Bool.not_eq_true] at c5
        exact wp_some trivial
      · try simp (disch := omega) only [w32_of, w64_of, w8_of, decide_eq_true_eq, decide_eq_false_iff_not, Bool.not_eq_true] at c5
        exact wp_some trivial
    rintro x_11 _ -
    refine wp_bd (P := fun rr_ => II rr_ ∧ FC [kO_row, kO_size] [] σ rr_) ?_ ?_
    · refine wp_if (fun c7 => ?_) (fun c7 => ?_)
      · try simp (disch := omega) only [w32_of, w64_of, w8_of, decide_eq_true_eq, decide_eq_false_iff_not, Bool.not_eq_true] at c7
        refine wp_bd (s_O_put (σ := σ) (value_0 := 40) hσ (by (try dsimp only) <;> first | assumption | omega | ((try simp (disch := omega) only [w32_of, w64_of, w8_of]) <;> first | assumption | omega | (split <;> omega) | (refine And.intro ?_ ?_ <;> split <;> omega)) | omega)) ?_
        rintro σ_18 - ⟨hσ_18, flσ_18r⟩
        have flσ_18 := FC_of flσ_18r (by decide)
        have frσ_18 : FC [kO_row, kO_size] [] σ σ_18 := FC_le flσ_18 (by first | decide | (rcases hE with rfl | rfl | rfl <;> decide)) (by simp)
        exact wp_some ⟨hσ_18, frσ_18⟩
      · try simp (disch := omega) only [w32_of, w64_of, w8_of, decide_eq_true_eq, decide_eq_false_iff_not, Bool.not_eq_true] at c7
        exact wp_some ⟨hσ, (FC_refl _ _ _)⟩
    rintro σ_21 _ ⟨hσ_21, frσ_21⟩
    refine wp_bd (P := fun rr_ => II rr_.2.2 ∧ FC [kO_row, kO_size] [] σ rr_.2.2 ∧ (True)) ?_ ?_
    · refine wp_whl (fun ss_ => II ss_.2.2 ∧ FC [kO_row, kO_size] [] σ ss_.2.2 ∧ (0 ≤ ss_.2.1 ∧ ss_.2.1 ≤ rN (σ (kA_plan shape_0)) at_0) ∧ (ss_.1 = from_0 + rS (σ (kA_plan shape_0)) at_0 ss_.2.1)) (fun ss_ => (rN (σ (kA_plan shape_0)) at_0 - ss_.2.1).toNat) ⟨hσ_21, frσ_21, (by (try dsimp only) <;> first | assumption | omega | ((try simp (disch := omega) only [w32_of, w64_of, w8_of]) <;> first | assumption | omega | (split <;> omega) | (refine And.intro ?_ ?_ <;> split <;> omega)) | omega), (by (try dsimp only) <;> (first | (rw [rS_0]; omega) | omega))⟩ ?_
      rintro ⟨start_22, row_23, σ_24⟩ y10
      try dsimp only at y10 ⊢
      obtain ⟨hσ_24, frσ_24, g8, g9⟩ := y10
      refine wp_bd (s_A_rows (σ := σ_24) (this_0 := shape_0) (at_0 := at_0) hσ_24 (by first | assumption | decide | omega) (ENa_f frσ_24 (by first | assumption | decide | omega) (NS_0 _) w0)) ?_
      rintro x_33 - ⟨g11, g12⟩
      try simp only [FC_plan (t := shape_0) frσ_24 (by first | assumption | decide | omega) (NS_0 _)] at g11
      try simp (disch := omega) only [w32_of, w64_of, w8_of] at g11
      try simp (disch := omega) only [w32_of, w64_of, w8_of] at g12
      have c14 := w32_rng row_23
      have c15 := w32_rng x_33
      refine wp_if (fun c13 => ?_) (fun c13 => ?_)
      · try simp (disch := omega) only [w32_of, w64_of, w8_of, decide_eq_true_eq, decide_eq_false_iff_not, Bool.not_eq_true] at c13
        have hg := rS_go ho (show 0 ≤ row_23 by omega) (by omega)
        refine wp_bd (P := fun rr_ => II rr_ ∧ FC [kO_row, kO_size] [] σ rr_) ?_ ?_
        · refine wp_if (fun c16 => ?_) (fun c16 => ?_)
          · try simp (disch := omega) only [w32_of, w64_of, w8_of, decide_eq_true_eq, decide_eq_false_iff_not, Bool.not_eq_true] at c16
            refine wp_bd (s_O_putText (σ := σ_24) (text_0 := 9) hσ_24 (by (try dsimp only) <;> first | assumption | omega | ((try simp (disch := omega) only [w32_of, w64_of, w8_of]) <;> first | assumption | omega | (split <;> omega) | (refine And.intro ?_ ?_ <;> split <;> omega)) | omega)) ?_
            rintro σ_41 - ⟨hσ_41, flσ_41⟩
            have frσ_41 : FC [kO_row, kO_size] [] σ σ_41 := FC_tr frσ_24 flσ_41 (by first | decide | (rcases hE with rfl | rfl | rfl <;> decide)) (by first | decide | (rcases hE with rfl | rfl | rfl <;> decide)) (by simp) (by simp)
            exact wp_some ⟨hσ_41, frσ_41⟩
          · try simp (disch := omega) only [w32_of, w64_of, w8_of, decide_eq_true_eq, decide_eq_false_iff_not, Bool.not_eq_true] at c16
            exact wp_some ⟨hσ_24, frσ_24⟩
        rintro σ_44 _ ⟨hσ_44, frσ_44⟩
        refine wp_bd (s_A_rowLength (σ := σ_44) (this_0 := shape_0) (at_0 := at_0) (row_0 := row_23) hσ_44 (by first | assumption | decide | omega) (ENa_f frσ_44 (by first | assumption | decide | omega) (NS_0 _) w0) (by (try simp only [FC_plan (t := shape_0) frσ_44 (by first | assumption | decide | omega) (NS_0 _)]) <;> ((try dsimp only) <;> first | assumption | omega | ((try simp (disch := omega) only [w32_of, w64_of, w8_of]) <;> first | assumption | omega | (split <;> omega) | (refine And.intro ?_ ?_ <;> split <;> omega)) | omega))) ?_
        rintro x_46 - ⟨g17, g18⟩
        try simp only [FC_plan (t := shape_0) frσ_44 (by first | assumption | decide | omega) (NS_0 _)] at g17
        try simp (disch := omega) only [w32_of, w64_of, w8_of] at g17
        try simp (disch := omega) only [w32_of, w64_of, w8_of] at g18
        refine wp_bd (s_O_putCoordinates (σ := σ_44) (shape_0 := shape_0) (from_0 := start_22) (length_0 := x_46) hσ_44 (by first | assumption | decide | omega) (by (try dsimp only) <;> first | assumption | omega | ((try simp (disch := omega) only [w32_of, w64_of, w8_of]) <;> first | assumption | omega | (split <;> omega) | (refine And.intro ?_ ?_ <;> split <;> omega)) | omega)) ?_
        rintro σ_48 - ⟨hσ_48, flσ_48⟩
        have frσ_48 : FC [kO_row, kO_size] [] σ σ_48 := FC_tr frσ_44 flσ_48 (by first | decide | (rcases hE with rfl | rfl | rfl <;> decide)) (by first | decide | (rcases hE with rfl | rfl | rfl <;> decide)) (by simp) (by simp)
        exact wp_some (x_inl ⟨⟨hσ_48, frσ_48, (by (try dsimp only) <;> first | assumption | omega | ((try simp (disch := omega) only [w32_of, w64_of, w8_of]) <;> first | assumption | omega | (split <;> omega) | (refine And.intro ?_ ?_ <;> split <;> omega)) | omega), (by (try dsimp only) <;> (first | (rw [rS_0]; omega) | omega))⟩, (by (try dsimp only) <;> first | assumption | omega | ((try simp (disch := omega) only [w32_of, w64_of, w8_of]) <;> first | assumption | omega | (split <;> omega) | (refine And.intro ?_ ?_ <;> split <;> omega)) | omega)⟩)
      · try simp (disch := omega) only [w32_of, w64_of, w8_of, decide_eq_true_eq, decide_eq_false_iff_not, Bool.not_eq_true] at c13
        exact wp_some (x_inr ⟨hσ_24, frσ_24, (by (try dsimp only) <;> first | assumption | omega | ((try simp (disch := omega) only [w32_of, w64_of, w8_of]) <;> first | assumption | omega | (split <;> omega) | (refine And.intro ?_ ?_ <;> split <;> omega)) | omega)⟩)
    rintro ⟨start_52, row_53, σ_54⟩ _ y20
    try dsimp only at y20 ⊢
    obtain ⟨hσ_54, frσ_54, g19⟩ := y20
    refine wp_bd (P := fun rr_ => II rr_ ∧ FC [kO_row, kO_size] [] σ rr_) ?_ ?_
    · refine wp_if (fun c21 => ?_) (fun c21 => ?_)
      · try simp (disch := omega) only [w32_of, w64_of, w8_of, decide_eq_true_eq, decide_eq_false_iff_not, Bool.not_eq_true] at c21
        refine wp_bd (s_O_put (σ := σ_54) (value_0 := 41) hσ_54 (by (try dsimp only) <;> first | assumption | omega | ((try simp (disch := omega) only [w32_of, w64_of, w8_of]) <;> first | assumption | omega | (split <;> omega) | (refine And.intro ?_ ?_ <;> split <;> omega)) | omega)) ?_
        rintro σ_61 - ⟨hσ_61, flσ_61r⟩
        have flσ_61 := FC_of flσ_61r (by decide)
        have frσ_61 : FC [kO_row, kO_size] [] σ σ_61 := FC_tr frσ_54 flσ_61 (by first | decide | (rcases hE with rfl | rfl | rfl <;> decide)) (by first | decide | (rcases hE with rfl | rfl | rfl <;> decide)) (by simp) (by simp)
        exact wp_some ⟨hσ_61, frσ_61⟩
      · try simp (disch := omega) only [w32_of, w64_of, w8_of, decide_eq_true_eq, decide_eq_false_iff_not, Bool.not_eq_true] at c21
        exact wp_some ⟨hσ_54, frσ_54⟩
    rintro σ_64 _ ⟨hσ_64, frσ_64⟩
    exact wp_some ⟨hσ_64, frσ_64⟩
theorem s_O_tellInWords {σ : SG} {shape_0 : Nat} (hσ : II σ) (hs_shape_0 : isS shape_0) (w0 : SHa σ shape_0) : wp_ (fO_tellInWords σ shape_0) (fun zz_ => II zz_.2 ∧ FC [kO_levelKind, kO_levelLeft, kO_row, kO_size] [] σ zz_.2 ∧ (0 ≤ zz_.1)) := by
  unfold fO_tellInWords
  have hpl := iiA_plans hσ hs_shape_0 0
  have hpt := iiA_points hσ hs_shape_0 0
  refine wp_wfI hσ b_kO_size (by (try dsimp only) <;> first | assumption | omega | ((try simp (disch := omega) only [w32_of, w64_of, w8_of]) <;> first | assumption | omega | (split <;> omega) | (refine And.intro ?_ ?_ <;> split <;> omega)) | omega) (fun σ_1 hσ_1 eσ_1 => ?_)
  try simp (disch := omega) only [w32_of, w64_of, w8_of] at eσ_1
  have flσ_1 := FC_sg eσ_1 (by first | decide | (rcases hE with rfl | rfl | rfl <;> decide))
  have frσ_1 : FC [kO_levelKind, kO_levelLeft, kO_row, kO_size] [] σ σ_1 := FC_le flσ_1 (by first | decide | (rcases hE with rfl | rfl | rfl <;> decide)) (by simp)
  refine wp_bd (P := fun rr_ => II rr_.2.2.2 ∧ FC [kO_levelKind, kO_levelLeft, kO_row, kO_size] [] σ rr_.2.2.2 ∧ (True)) ?_ ?_
  · refine wp_whl (fun ss_ => II ss_.2.2.2 ∧ FC [kO_levelKind, kO_levelLeft, kO_row, kO_size] [] σ ss_.2.2.2 ∧ (0 ≤ ss_.1 ∧ ss_.1 ≤ 64) ∧ (FLa σ shape_0 ss_.2.2.1 ss_.2.1)) (fun ss_ => (2048 - ss_.2.2.1).toNat) ⟨hσ_1, frσ_1, (by (try dsimp only) <;> first | assumption | omega | ((try simp (disch := omega) only [w32_of, w64_of, w8_of]) <;> first | assumption | omega | (split <;> omega) | (refine And.intro ?_ ?_ <;> split <;> omega)) | omega), (by (try dsimp only) <;> (first | assumption | exact FLa_0 w0 | (rw [hbh, el6]; exact hn6) | (rw [hbh, hpa]; exact hn)))⟩ ?_
    rintro ⟨depth_2, from_3, at_4, σ_5⟩ y2
    try dsimp only at y2 ⊢
    obtain ⟨hσ_5, frσ_5, g1, gw⟩ := y2
    have hle := FLa_le gw
    have c4 := w32_rng (at_4 + 1)
    have c5 := iiA_plans (s := shape_0) hσ_5 (by first | assumption | decide | omega) 0
    have c6 := congrFun (FC_plans (t := shape_0) frσ_5 (by first | assumption | decide | omega) (NS_0 _)) 0
    have c7 := iiA_plans (s := shape_0) hσ (by first | assumption | decide | omega) 0
    have c8 := w32_rng (σ_5 (kA_plans shape_0) 0)
    refine wp_if (fun c3 => ?_) (fun c3 => ?_)
    · try simp (disch := omega) only [w32_of, w64_of, w8_of, decide_eq_true_eq, decide_eq_false_iff_not, Bool.not_eq_true] at c3
      obtain ⟨he, hn, h2, h3, h4, h5, h6⟩ := FLa_hd hσ hs_shape_0 gw (by omega)
      have c9 := w32_rng at_4
      refine wp_rdI (by (try dsimp only) <;> first | assumption | omega | ((try simp (disch := omega) only [w32_of, w64_of, w8_of]) <;> first | assumption | omega | (split <;> omega) | (refine And.intro ?_ ?_ <;> split <;> omega)) | omega) (by (try dsimp only) <;> first | assumption | omega | ((try simp (disch := omega) only [w32_of, w64_of, w8_of]) <;> first | assumption | omega | (split <;> omega) | (refine And.intro ?_ ?_ <;> split <;> omega)) | omega) (fun x_14 e_x_14 => ?_)
      rw [FC_plan (t := shape_0) frσ_5 (by first | assumption | decide | omega) (NS_0 _)] at e_x_14
      try simp (disch := omega) only [w32_of, w64_of, w8_of] at e_x_14
      have c10 := congrFun (FC_plan (t := shape_0) frσ_5 (by first | assumption | decide | omega) (NS_0 _)) at_4
      have hwf := wordFor_b x_14
      refine wp_rdI (by (try dsimp only) <;> first | assumption | omega | ((try simp (disch := omega) only [w32_of, w64_of, w8_of]) <;> first | assumption | omega | (split <;> omega) | (refine And.intro ?_ ?_ <;> split <;> omega)) | omega) (by (try dsimp only) <;> first | assumption | omega | ((try simp (disch := omega) only [w32_of, w64_of, w8_of]) <;> first | assumption | omega | (split <;> omega) | (refine And.intro ?_ ?_ <;> split <;> omega)) | omega) (fun x_16 e_x_16 => ?_)
      rw [FC_plan (t := shape_0) frσ_5 (by first | assumption | decide | omega) (NS_0 _)] at e_x_16
      try simp (disch := omega) only [w32_of, w64_of, w8_of] at e_x_16
      have c11 := congrFun (FC_plan (t := shape_0) frσ_5 (by first | assumption | decide | omega) (NS_0 _)) (at_4 + 1)
      refine wp_bd (P := fun rr_ => II rr_ ∧ FC [kO_levelKind, kO_levelLeft, kO_row, kO_size] [] σ rr_) ?_ ?_
      · have c13 := w32_rng depth_2
        refine wp_if (fun c12 => ?_) (fun c12 => ?_)
        · try simp (disch := omega) only [w32_of, w64_of, w8_of, decide_eq_true_eq, decide_eq_false_iff_not, Bool.not_eq_true] at c12
          refine wp_ck (by exact hwf.1) ?_
          refine wp_bd (s_O_putText (σ := σ_5) (text_0 := (fO_wordFor x_14)) hσ_5 (by first | exact hwf.2 | decide)) ?_
          rintro σ_38 - ⟨hσ_38, flσ_38⟩
          have frσ_38 : FC [kO_levelKind, kO_levelLeft, kO_row, kO_size] [] σ σ_38 := FC_tr frσ_5 flσ_38 (by first | decide | (rcases hE with rfl | rfl | rfl <;> decide)) (by first | decide | (rcases hE with rfl | rfl | rfl <;> decide)) (by simp) (by simp)
          refine wp_bd (s_O_put (σ := σ_38) (value_0 := 32) hσ_38 (by (try dsimp only) <;> first | assumption | omega | ((try simp (disch := omega) only [w32_of, w64_of, w8_of]) <;> first | assumption | omega | (split <;> omega) | (refine And.intro ?_ ?_ <;> split <;> omega)) | omega)) ?_
          rintro σ_40 - ⟨hσ_40, flσ_40r⟩
          have flσ_40 := FC_of flσ_40r (by decide)
          have frσ_40 : FC [kO_levelKind, kO_levelLeft, kO_row, kO_size] [] σ σ_40 := FC_tr frσ_38 flσ_40 (by first | decide | (rcases hE with rfl | rfl | rfl <;> decide)) (by first | decide | (rcases hE with rfl | rfl | rfl <;> decide)) (by simp) (by simp)
          exact wp_some ⟨hσ_40, frσ_40⟩
        · try simp (disch := omega) only [w32_of, w64_of, w8_of, decide_eq_true_eq, decide_eq_false_iff_not, Bool.not_eq_true] at c12
          have c14 := w32_rng (depth_2 - 1)
          refine wp_rdI (by (try dsimp only) <;> first | assumption | omega | ((try simp (disch := omega) only [w32_of, w64_of, w8_of]) <;> first | assumption | omega | (split <;> omega) | (refine And.intro ?_ ?_ <;> split <;> omega)) | omega) (by (try dsimp only) <;> first | assumption | omega | ((try simp (disch := omega) only [w32_of, w64_of, w8_of]) <;> first | assumption | omega | (split <;> omega) | (refine And.intro ?_ ?_ <;> split <;> omega)) | omega) (fun x_42 e_x_42 => ?_)
          have b_x_42 : 0 ≤ x_42 ∧ x_42 ≤ 7 := by rw [e_x_42]; exact ii_kO_levelKind hσ_5 _
          try simp (disch := omega) only [w32_of, w64_of, w8_of] at e_x_42
          have c15 := ii_kO_levelKind hσ_5 (depth_2 - 1)
          have c17 := w32_rng x_42
          refine wp_if (fun c16 => ?_) (fun c16 => ?_)
          · try simp (disch := omega) only [w32_of, w64_of, w8_of, decide_eq_true_eq, decide_eq_false_iff_not, Bool.not_eq_true] at c16
            refine wp_ck (by exact hwf.1) ?_
            refine wp_bd (s_O_putText (σ := σ_5) (text_0 := (fO_wordFor x_14)) hσ_5 (by first | exact hwf.2 | decide)) ?_
            rintro σ_47 - ⟨hσ_47, flσ_47⟩
            have frσ_47 : FC [kO_levelKind, kO_levelLeft, kO_row, kO_size] [] σ σ_47 := FC_tr frσ_5 flσ_47 (by first | decide | (rcases hE with rfl | rfl | rfl <;> decide)) (by first | decide | (rcases hE with rfl | rfl | rfl <;> decide)) (by simp) (by simp)
            refine wp_bd (s_O_put (σ := σ_47) (value_0 := 32) hσ_47 (by (try dsimp only) <;> first | assumption | omega | ((try simp (disch := omega) only [w32_of, w64_of, w8_of]) <;> first | assumption | omega | (split <;> omega) | (refine And.intro ?_ ?_ <;> split <;> omega)) | omega)) ?_
            rintro σ_49 - ⟨hσ_49, flσ_49r⟩
            have flσ_49 := FC_of flσ_49r (by decide)
            have frσ_49 : FC [kO_levelKind, kO_levelLeft, kO_row, kO_size] [] σ σ_49 := FC_tr frσ_47 flσ_49 (by first | decide | (rcases hE with rfl | rfl | rfl <;> decide)) (by first | decide | (rcases hE with rfl | rfl | rfl <;> decide)) (by simp) (by simp)
            exact wp_some ⟨hσ_49, frσ_49⟩
          · try simp (disch := omega) only [w32_of, w64_of, w8_of, decide_eq_true_eq, decide_eq_false_iff_not, Bool.not_eq_true] at c16
            exact wp_some ⟨hσ_5, frσ_5⟩
      rintro σ_52 _ ⟨hσ_52, frσ_52⟩
      have c19 := w32_rng x_16
      have c20 := w32_rng x_14
      have c21 := w32_rng depth_2
      refine wp_if (fun c18 => ?_) (fun c18 => ?_)
      · try simp (disch := omega) only [w32_of, w64_of, w8_of, decide_eq_true_eq, decide_eq_false_iff_not, Bool.not_eq_true] at c18
        refine wp_bd (s_O_put (σ := σ_52) (value_0 := 40) hσ_52 (by (try dsimp only) <;> first | assumption | omega | ((try simp (disch := omega) only [w32_of, w64_of, w8_of]) <;> first | assumption | omega | (split <;> omega) | (refine And.intro ?_ ?_ <;> split <;> omega)) | omega)) ?_
        rintro σ_54 - ⟨hσ_54, flσ_54r⟩
        have flσ_54 := FC_of flσ_54r (by decide)
        have frσ_54 : FC [kO_levelKind, kO_levelLeft, kO_row, kO_size] [] σ σ_54 := FC_tr frσ_52 flσ_54 (by first | decide | (rcases hE with rfl | rfl | rfl <;> decide)) (by first | decide | (rcases hE with rfl | rfl | rfl <;> decide)) (by simp) (by simp)
        refine wp_waI hσ_54 b_kO_levelKind (by (try dsimp only) <;> first | assumption | omega | ((try simp (disch := omega) only [w32_of, w64_of, w8_of]) <;> first | assumption | omega | (split <;> omega) | (refine And.intro ?_ ?_ <;> split <;> omega)) | omega) (by (try dsimp only) <;> first | assumption | omega | ((try simp (disch := omega) only [w32_of, w64_of, w8_of]) <;> first | assumption | omega | (split <;> omega) | (refine And.intro ?_ ?_ <;> split <;> omega)) | omega) (by (try dsimp only) <;> first | assumption | omega | ((try simp (disch := omega) only [w32_of, w64_of, w8_of]) <;> first | assumption | omega | (split <;> omega) | (refine And.intro ?_ ?_ <;> split <;> omega)) | omega) (fun σ_55 hσ_55 eσ_55 => ?_)
        try simp (disch := omega) only [w32_of, w64_of, w8_of] at eσ_55
        have flσ_55 := FC_sg eσ_55 (by first | decide | (rcases hE with rfl | rfl | rfl <;> decide))
        have frσ_55 : FC [kO_levelKind, kO_levelLeft, kO_row, kO_size] [] σ σ_55 := FC_tr frσ_54 flσ_55 (by first | decide | (rcases hE with rfl | rfl | rfl <;> decide)) (by first | decide | (rcases hE with rfl | rfl | rfl <;> decide)) (by simp) (by simp)
        refine wp_waN hσ_55 b_kO_levelLeft (by (try dsimp only) <;> first | assumption | omega | ((try simp (disch := omega) only [w32_of, w64_of, w8_of]) <;> first | assumption | omega | (split <;> omega) | (refine And.intro ?_ ?_ <;> split <;> omega)) | omega) (by (try dsimp only) <;> first | assumption | omega | ((try simp (disch := omega) only [w32_of, w64_of, w8_of]) <;> first | assumption | omega | (split <;> omega) | (refine And.intro ?_ ?_ <;> split <;> omega)) | omega) (fun σ_57 hσ_57 eσ_57 => ?_)
        try simp (disch := omega) only [w32_of, w64_of, w8_of] at eσ_57
        have flσ_57 := FC_sg eσ_57 (by first | decide | (rcases hE with rfl | rfl | rfl <;> decide))
        have frσ_57 : FC [kO_levelKind, kO_levelLeft, kO_row, kO_size] [] σ σ_57 := FC_tr frσ_55 flσ_57 (by first | decide | (rcases hE with rfl | rfl | rfl <;> decide)) (by first | decide | (rcases hE with rfl | rfl | rfl <;> decide)) (by simp) (by simp)
        refine wp_bd (s_A_behind (σ := σ_57) (this_0 := shape_0) (at_0 := at_4) hσ_57 (by first | assumption | decide | omega) (ENa_f flσ_57 (by first | assumption | decide | omega) (NS_0 _) (ENa_f flσ_55 (by first | assumption | decide | omega) (NS_0 _) (ENa_f flσ_54 (by first | assumption | decide | omega) (NS_0 _) (ENa_f frσ_52 (by first | assumption | decide | omega) (NS_0 _) he))))) ?_
        rintro x_60 - hbh
        try simp only [FC_plan (t := shape_0) frσ_57 (by first | assumption | decide | omega) (NS_0 _)] at hbh
        try simp (disch := omega) only [w32_of, w64_of, w8_of] at hbh
        have el6 := el_n (show ¬ σ (kA_plan shape_0) at_4 = 3 by omega)
        have ep6 := ep_g (show 3 < σ (kA_plan shape_0) at_4 by omega)
        have hn6 := hn
        rw [el6, ep6, Int.add_zero] at hn6
        exact wp_some (x_inl ⟨⟨hσ_57, frσ_57, (by (try dsimp only) <;> first | assumption | omega | ((try simp (disch := omega) only [w32_of, w64_of, w8_of]) <;> first | assumption | omega | (split <;> omega) | (refine And.intro ?_ ?_ <;> split <;> omega)) | omega), (by (try dsimp only) <;> (first | assumption | exact FLa_0 w0 | (rw [hbh, el6]; exact hn6) | (rw [hbh, hpa]; exact hn)))⟩, (by (try dsimp only) <;> first | assumption | omega | ((try simp (disch := omega) only [w32_of, w64_of, w8_of]) <;> first | assumption | omega | (split <;> omega) | (refine And.intro ?_ ?_ <;> split <;> omega)) | omega)⟩)
      · try simp (disch := omega) only [w32_of, w64_of, w8_of, decide_eq_true_eq, decide_eq_false_iff_not, Bool.not_eq_true] at c18
        refine wp_bd (s_O_putRows (σ := σ_52) (shape_0 := shape_0) (at_0 := at_4) (from_0 := from_3) hσ_52 (by first | assumption | decide | omega) (ENa_f frσ_52 (by first | assumption | decide | omega) (NS_0 _) he) (by (try dsimp only) <;> first | assumption | omega | ((try simp (disch := omega) only [w32_of, w64_of, w8_of]) <;> first | assumption | omega | (split <;> omega) | (refine And.intro ?_ ?_ <;> split <;> omega)) | omega) (by (try simp only [FC_plan (t := shape_0) frσ_52 (by first | assumption | decide | omega) (NS_0 _)]) <;> ((try dsimp only) <;> first | assumption | omega | ((try simp (disch := omega) only [w32_of, w64_of, w8_of]) <;> first | assumption | omega | (split <;> omega) | (refine And.intro ?_ ?_ <;> split <;> omega)) | omega))) ?_
        rintro σ_63 - ⟨hσ_63, flσ_63⟩
        have frσ_63 : FC [kO_levelKind, kO_levelLeft, kO_row, kO_size] [] σ σ_63 := FC_tr frσ_52 flσ_63 (by first | decide | (rcases hE with rfl | rfl | rfl <;> decide)) (by first | decide | (rcases hE with rfl | rfl | rfl <;> decide)) (by simp) (by simp)
        refine wp_bd (s_A_pointsAt (σ := σ_63) (this_0 := shape_0) (at_0 := at_4) hσ_63 (by first | assumption | decide | omega) (ENa_f flσ_63 (by first | assumption | decide | omega) (NS_0 _) (ENa_f frσ_52 (by first | assumption | decide | omega) (NS_0 _) he))) ?_
        rintro x_65 - hpa
        try simp only [FC_plan (t := shape_0) frσ_63 (by first | assumption | decide | omega) (NS_0 _)] at hpa
        try simp (disch := omega) only [w32_of, w64_of, w8_of] at hpa
        refine wp_bd (s_O_closeLevels (σ := σ_63) (open_0 := depth_2) hσ_63 (by (try dsimp only) <;> first | assumption | omega | ((try simp (disch := omega) only [w32_of, w64_of, w8_of]) <;> first | assumption | omega | (split <;> omega) | (refine And.intro ?_ ?_ <;> split <;> omega)) | omega)) ?_
        rintro ⟨x_68, σ_67⟩ - y23
        try dsimp only at y23 ⊢
        obtain ⟨hσ_67, flσ_67, g22⟩ := y23
        have frσ_67 : FC [kO_levelKind, kO_levelLeft, kO_row, kO_size] [] σ σ_67 := FC_tr frσ_63 flσ_67 (by first | decide | (rcases hE with rfl | rfl | rfl <;> decide)) (by first | decide | (rcases hE with rfl | rfl | rfl <;> decide)) (by simp) (by simp)
        try simp (disch := omega) only [w32_of, w64_of, w8_of] at g22
        refine wp_bd (s_A_behind (σ := σ_67) (this_0 := shape_0) (at_0 := at_4) hσ_67 (by first | assumption | decide | omega) (ENa_f flσ_67 (by first | assumption | decide | omega) (NS_0 _) (ENa_f flσ_63 (by first | assumption | decide | omega) (NS_0 _) (ENa_f frσ_52 (by first | assumption | decide | omega) (NS_0 _) he)))) ?_
        rintro x_70 - hbh
        try simp only [FC_plan (t := shape_0) frσ_67 (by first | assumption | decide | omega) (NS_0 _)] at hbh
        try simp (disch := omega) only [w32_of, w64_of, w8_of] at hbh
        exact wp_some (x_inl ⟨⟨hσ_67, frσ_67, (by (try dsimp only) <;> first | assumption | omega | ((try simp (disch := omega) only [w32_of, w64_of, w8_of]) <;> first | assumption | omega | (split <;> omega) | (refine And.intro ?_ ?_ <;> split <;> omega)) | omega), (by (try dsimp only) <;> (first | assumption | exact FLa_0 w0 | (rw [hbh, el6]; exact hn6) | (rw [hbh, hpa]; exact hn)))⟩, (by (try dsimp only) <;> first | assumption | omega | ((try simp (disch := omega) only [w32_of, w64_of, w8_of]) <;> first | assumption | omega | (split <;> omega) | (refine And.intro ?_ ?_ <;> split <;> omega)) | omega)⟩)
    · try simp (disch := omega) only [w32_of, w64_of, w8_of, decide_eq_true_eq, decide_eq_false_iff_not, Bool.not_eq_true] at c3
      exact wp_some (x_inr ⟨hσ_5, frσ_5, (by (try dsimp only) <;> first | assumption | omega | ((try simp (disch := omega) only [w32_of, w64_of, w8_of]) <;> first | assumption | omega | (split <;> omega) | (refine And.intro ?_ ?_ <;> split <;> omega)) | omega)⟩)
  rintro ⟨depth_83, from_84, at_85, σ_86⟩ _ y25
  try dsimp only at y25 ⊢
  obtain ⟨hσ_86, frσ_86, g24⟩ := y25
  have c26 := ii_kO_size hσ_86 0
  exact wp_some ⟨hσ_86, frσ_86, (by (try dsimp only) <;> first | assumption | omega | ((try simp (disch := omega) only [w32_of, w64_of, w8_of]) <;> first | assumption | omega | (split <;> omega) | (refine And.intro ?_ ?_ <;> split <;> omega)) | omega)⟩
theorem s_O_bitsOf {σ : SG} {units_0 : Int} (hσ : II σ) (w0 : -1000000000 ≤ units_0 ∧ units_0 ≤ 1000000000) : wp_ (fO_bitsOf σ units_0) (fun zz_ => True) := by
  unfold fO_bitsOf
  have hdg := ii_kO_digits hσ 0
  have hun := uNit_b (x := w32 (σ kO_digits 0)) (by rw [w32_of (by omega) (by omega)]; omega)
  have hun2 := uNit_b (x := (σ kO_digits 0)) (by omega)
  have c2 := w32_rng units_0
  refine wp_if (fun c1 => ?_) (fun c1 => ?_)
  · try simp (disch := omega) only [w32_of, w64_of, w8_of, decide_eq_true_eq, decide_eq_false_iff_not, Bool.not_eq_true] at c1
    exact wp_some trivial
  · try simp (disch := omega) only [w32_of, w64_of, w8_of, decide_eq_true_eq, decide_eq_false_iff_not, Bool.not_eq_true] at c1
    have c3 := ii_kO_digits hσ 0
    have c4 := w32_rng (σ kO_digits 0)
    refine wp_ck (by (try dsimp only) <;> first | assumption | omega | ((try simp (disch := omega) only [w32_of, w64_of, w8_of]) <;> first | assumption | omega | (split <;> omega) | (refine And.intro ?_ ?_ <;> split <;> omega)) | omega) ?_
    refine wp_bd (P := fun rr_ => (0 ≤ rr_ ∧ rr_ ≤ 63)) ?_ ?_
    · refine wp_whl (fun ss_ => (0 ≤ ss_ ∧ ss_ ≤ 63)) (fun ss_ => (64 - ss_).toNat) (by (try dsimp only) <;> first | assumption | omega | ((try simp (disch := omega) only [w32_of, w64_of, w8_of]) <;> first | assumption | omega | (split <;> omega) | (refine And.intro ?_ ?_ <;> split <;> omega)) | omega) ?_
      rintro shift_3 g5
      have c7 := w32_rng shift_3
      refine wp_if (fun c6 => ?_) (fun c6 => ?_)
      · try simp (disch := omega) only [w32_of, w64_of, w8_of, decide_eq_true_eq, decide_eq_false_iff_not, Bool.not_eq_true] at c6
        have c8 := w32_rng (uNit (w32 (σ kO_digits 0)))
        have c9 := w64_rng (w32 (uNit (w32 (σ kO_digits 0))))
        refine wp_ck (by (try dsimp only) <;> first | assumption | omega | ((try simp (disch := omega) only [w32_of, w64_of, w8_of]) <;> first | assumption | omega | (split <;> omega) | (refine And.intro ?_ ?_ <;> split <;> omega)) | omega) ?_
        have c11 := q_abl_bd (w32 units_0)
        try simp (disch := omega) only [w32_of, w64_of, w8_of] at c11
        have c12 := q_lsl_rng (q_abl (w32 units_0)) shift_3
        have c14 := w64_rng (q_ldv (q_lsl (q_abl (w32 units_0)) shift_3) (w32 (uNit (w32 (σ kO_digits 0)))))
        refine wp_if (fun c10 => ?_) (fun c10 => ?_)
        · try simp (disch := omega) only [w32_of, w64_of, w8_of, decide_eq_true_eq, decide_eq_false_iff_not, Bool.not_eq_true] at c10
          exact wp_some (x_inl ⟨(by (try dsimp only) <;> first | assumption | omega | ((try simp (disch := omega) only [w32_of, w64_of, w8_of]) <;> first | assumption | omega | (split <;> omega) | (refine And.intro ?_ ?_ <;> split <;> omega)) | omega), (by (try dsimp only) <;> first | assumption | omega | ((try simp (disch := omega) only [w32_of, w64_of, w8_of]) <;> first | assumption | omega | (split <;> omega) | (refine And.intro ?_ ?_ <;> split <;> omega)) | omega)⟩)
        · try simp (disch := omega) only [w32_of, w64_of, w8_of, decide_eq_true_eq, decide_eq_false_iff_not, Bool.not_eq_true] at c10
          exact wp_some (x_inr (by (try dsimp only) <;> first | assumption | omega | ((try simp (disch := omega) only [w32_of, w64_of, w8_of]) <;> first | assumption | omega | (split <;> omega) | (refine And.intro ?_ ?_ <;> split <;> omega)) | omega))
      · try simp (disch := omega) only [w32_of, w64_of, w8_of, decide_eq_true_eq, decide_eq_false_iff_not, Bool.not_eq_true] at c6
        exact wp_some (x_inr (by (try dsimp only) <;> first | assumption | omega | ((try simp (disch := omega) only [w32_of, w64_of, w8_of]) <;> first | assumption | omega | (split <;> omega) | (refine And.intro ?_ ?_ <;> split <;> omega)) | omega))
    rintro shift_24 _ g15
    have c16 := w32_rng (uNit (w32 (σ kO_digits 0)))
    have c17 := w64_rng (w32 (uNit (w32 (σ kO_digits 0))))
    refine wp_ck (by (try dsimp only) <;> first | assumption | omega | ((try simp (disch := omega) only [w32_of, w64_of, w8_of]) <;> first | assumption | omega | (split <;> omega) | (refine And.intro ?_ ?_ <;> split <;> omega)) | omega) ?_
    have c18 := q_abl_bd (w32 units_0)
    try simp (disch := omega) only [w32_of, w64_of, w8_of] at c18
    have c19 := q_lsl_rng (q_abl (w32 units_0)) shift_24
    refine wp_lt (fun x_26 e_x_26 => ?_)
    try simp (disch := omega) only [w32_of, w64_of, w8_of] at e_x_26
    refine wp_ck (by (try dsimp only) <;> first | assumption | omega | ((try simp (disch := omega) only [w32_of, w64_of, w8_of]) <;> first | assumption | omega | (split <;> omega) | (refine And.intro ?_ ?_ <;> split <;> omega)) | omega) ?_
    refine wp_lt (fun x_28 e_x_28 => ?_)
    try simp (disch := omega) only [w32_of, w64_of, w8_of] at e_x_28
    refine wp_bd (P := fun rr_ => (True)) ?_ ?_
    · have c23 := w64_rng (2 * x_28)
      have c24 := q_lan_bd x_26 (m := 1) (by decide) (by decide)
      try simp (disch := omega) only [w32_of, w64_of, w8_of] at c24
      have c25 := w64_rng (q_lan x_26 1)
      refine wp_if (fun c22 => ?_) (fun c22 => ?_)
      · try simp (disch := omega) only [w32_of, w64_of, w8_of, decide_eq_true_eq, decide_eq_false_iff_not, Bool.not_eq_true] at c22
        exact wp_some (by (try dsimp only) <;> first | assumption | omega | ((try simp (disch := omega) only [w32_of, w64_of, w8_of]) <;> first | assumption | omega | (split <;> omega) | (refine And.intro ?_ ?_ <;> split <;> omega)) | omega)
      · try simp (disch := omega) only [w32_of, w64_of, w8_of, decide_eq_true_eq, decide_eq_false_iff_not, Bool.not_eq_true] at c22
        exact wp_some (by (try dsimp only) <;> first | assumption | omega | ((try simp (disch := omega) only [w32_of, w64_of, w8_of]) <;> first | assumption | omega | (split <;> omega) | (refine And.intro ?_ ?_ <;> split <;> omega)) | omega)
    rintro whole_44 _ g26
    refine wp_bd (P := fun rr_ => (True)) ?_ ?_
    · have c28 := w64_rng whole_44
      have c29 := w64_rng (2 * 4503599627370496)
      refine wp_if (fun c27 => ?_) (fun c27 => ?_)
      · try simp (disch := omega) only [w32_of, w64_of, w8_of, decide_eq_true_eq, decide_eq_false_iff_not, Bool.not_eq_true] at c27
        exact wp_some (by (try dsimp only) <;> first | assumption | omega | ((try simp (disch := omega) only [w32_of, w64_of, w8_of]) <;> first | assumption | omega | (split <;> omega) | (refine And.intro ?_ ?_ <;> split <;> omega)) | omega)
      · try simp (disch := omega) only [w32_of, w64_of, w8_of, decide_eq_true_eq, decide_eq_false_iff_not, Bool.not_eq_true] at c27
        exact wp_some (by (try dsimp only) <;> first | assumption | omega | ((try simp (disch := omega) only [w32_of, w64_of, w8_of]) <;> first | assumption | omega | (split <;> omega) | (refine And.intro ?_ ?_ <;> split <;> omega)) | omega)
    rintro ⟨shift_52, whole_53⟩ _ y31
    try dsimp only at y31 ⊢
    have g30 := y31
    have c32 := w32_rng (1075 - shift_52)
    have c33 := q_lsl_rng (w32 (1075 - shift_52)) 52
    refine wp_lt (fun x_54 e_x_54 => ?_)
    try simp (disch := omega) only [w32_of, w64_of, w8_of] at e_x_54
    exact wp_some trivial
theorem s_O_tellInBytes {σ : SG} {shape_0 : Nat} {order_0 : Int} (hσ : II σ) (hs_shape_0 : isS shape_0) (w0 : SHa σ shape_0) (w1 : 0 ≤ order_0 ∧ order_0 ≤ 1) : wp_ (fO_tellInBytes σ shape_0 order_0) (fun zz_ => II zz_.2 ∧ FC [kO_lowFirst, kO_row, kO_size] [] σ zz_.2 ∧ (0 ≤ zz_.1)) := by
  unfold fO_tellInBytes
  have hpl := iiA_plans hσ hs_shape_0 0
  have hpt := iiA_points hσ hs_shape_0 0
  refine wp_wfI hσ b_kO_size (by (try dsimp only) <;> first | assumption | omega | ((try simp (disch := omega) only [w32_of, w64_of, w8_of]) <;> first | assumption | omega | (split <;> omega) | (refine And.intro ?_ ?_ <;> split <;> omega)) | omega) (fun σ_1 hσ_1 eσ_1 => ?_)
  try simp (disch := omega) only [w32_of, w64_of, w8_of] at eσ_1
  have flσ_1 := FC_sg eσ_1 (by first | decide | (rcases hE with rfl | rfl | rfl <;> decide))
  have frσ_1 : FC [kO_lowFirst, kO_row, kO_size] [] σ σ_1 := FC_le flσ_1 (by first | decide | (rcases hE with rfl | rfl | rfl <;> decide)) (by simp)
  have c1 := w32_rng order_0
  have c2 := bz_bd (decide ((w32 order_0) = 1))
  try simp (disch := omega) only [w32_of, w64_of, w8_of] at c2
  refine wp_wfI hσ_1 b_kO_lowFirst (by (try dsimp only) <;> first | assumption | omega | ((try simp (disch := omega) only [w32_of, w64_of, w8_of]) <;> first | assumption | omega | (split <;> omega) | (refine And.intro ?_ ?_ <;> split <;> omega)) | omega) (fun σ_3 hσ_3 eσ_3 => ?_)
  try simp (disch := omega) only [w32_of, w64_of, w8_of] at eσ_3
  have flσ_3 := FC_sg eσ_3 (by first | decide | (rcases hE with rfl | rfl | rfl <;> decide))
  have frσ_3 : FC [kO_lowFirst, kO_row, kO_size] [] σ σ_3 := FC_tr frσ_1 flσ_3 (by first | decide | (rcases hE with rfl | rfl | rfl <;> decide)) (by first | decide | (rcases hE with rfl | rfl | rfl <;> decide)) (by simp) (by simp)
  refine wp_bd (P := fun rr_ => II rr_.2.2 ∧ FC [kO_lowFirst, kO_row, kO_size] [] σ rr_.2.2 ∧ (True)) ?_ ?_
  · refine wp_whl (fun ss_ => II ss_.2.2 ∧ FC [kO_lowFirst, kO_row, kO_size] [] σ ss_.2.2 ∧ (FLa σ shape_0 ss_.2.1 ss_.1)) (fun ss_ => (2048 - ss_.2.1).toNat) ⟨hσ_3, frσ_3, (by (try dsimp only) <;> (first | assumption | exact FLa_0 w0 | (rw [hbh, hfe]; exact hn)))⟩ ?_
    rintro ⟨from_4, at_5, σ_6⟩ y3
    try dsimp only at y3 ⊢
    obtain ⟨hσ_6, frσ_6, gw⟩ := y3
    have hle := FLa_le gw
    have c5 := w32_rng (at_5 + 1)
    have c6 := iiA_plans (s := shape_0) hσ_6 (by first | assumption | decide | omega) 0
    have c7 := congrFun (FC_plans (t := shape_0) frσ_6 (by first | assumption | decide | omega) (NS_0 _)) 0
    have c8 := iiA_plans (s := shape_0) hσ (by first | assumption | decide | omega) 0
    have c9 := w32_rng (σ_6 (kA_plans shape_0) 0)
    refine wp_if (fun c4 => ?_) (fun c4 => ?_)
    · try simp (disch := omega) only [w32_of, w64_of, w8_of, decide_eq_true_eq, decide_eq_false_iff_not, Bool.not_eq_true] at c4
      obtain ⟨he, hn, h2, h3, h4, h5, h6⟩ := FLa_hd hσ hs_shape_0 gw (by omega)
      obtain ⟨ho, -, -, -⟩ := id he
      have hRe := rS_end ho
      have c10 := w32_rng at_5
      refine wp_rdI (by (try dsimp only) <;> first | assumption | omega | ((try simp (disch := omega) only [w32_of, w64_of, w8_of]) <;> first | assumption | omega | (split <;> omega) | (refine And.intro ?_ ?_ <;> split <;> omega)) | omega) (by (try dsimp only) <;> first | assumption | omega | ((try simp (disch := omega) only [w32_of, w64_of, w8_of]) <;> first | assumption | omega | (split <;> omega) | (refine And.intro ?_ ?_ <;> split <;> omega)) | omega) (fun x_15 e_x_15 => ?_)
      rw [FC_plan (t := shape_0) frσ_6 (by first | assumption | decide | omega) (NS_0 _)] at e_x_15
      try simp (disch := omega) only [w32_of, w64_of, w8_of] at e_x_15
      have c11 := congrFun (FC_plan (t := shape_0) frσ_6 (by first | assumption | decide | omega) (NS_0 _)) at_5
      refine wp_bd (s_O_put (σ := σ_6) (value_0 := order_0) hσ_6 (by (try dsimp only) <;> first | assumption | omega | ((try simp (disch := omega) only [w32_of, w64_of, w8_of]) <;> first | assumption | omega | (split <;> omega) | (refine And.intro ?_ ?_ <;> split <;> omega)) | omega)) ?_
      rintro σ_18 - ⟨hσ_18, flσ_18r⟩
      have flσ_18 := FC_of flσ_18r (by decide)
      have frσ_18 : FC [kO_lowFirst, kO_row, kO_size] [] σ σ_18 := FC_tr frσ_6 flσ_18 (by first | decide | (rcases hE with rfl | rfl | rfl <;> decide)) (by first | decide | (rcases hE with rfl | rfl | rfl <;> decide)) (by simp) (by simp)
      have c12 := w32_rng x_15
      refine wp_bd (s_O_putBytes (σ := σ_18) (value_0 := (w32 x_15)) (bytes_0 := 4) hσ_18 (by (try dsimp only) <;> first | assumption | omega | ((try simp (disch := omega) only [w32_of, w64_of, w8_of]) <;> first | assumption | omega | (split <;> omega) | (refine And.intro ?_ ?_ <;> split <;> omega)) | omega)) ?_
      rintro σ_20 - ⟨hσ_20, flσ_20r⟩
      have flσ_20 := FC_of flσ_20r (by decide)
      have frσ_20 : FC [kO_lowFirst, kO_row, kO_size] [] σ σ_20 := FC_tr frσ_18 flσ_20 (by first | decide | (rcases hE with rfl | rfl | rfl <;> decide)) (by first | decide | (rcases hE with rfl | rfl | rfl <;> decide)) (by simp) (by simp)
      refine wp_bd (P := fun rr_ => II rr_ ∧ FC [kO_lowFirst, kO_row, kO_size] [] σ rr_) ?_ ?_
      · refine wp_if (fun c13 => ?_) (fun c13 => ?_)
        · try simp (disch := omega) only [w32_of, w64_of, w8_of, decide_eq_true_eq, decide_eq_false_iff_not, Bool.not_eq_true] at c13
          refine wp_rdI (by (try dsimp only) <;> first | assumption | omega | ((try simp (disch := omega) only [w32_of, w64_of, w8_of]) <;> first | assumption | omega | (split <;> omega) | (refine And.intro ?_ ?_ <;> split <;> omega)) | omega) (by (try dsimp only) <;> first | assumption | omega | ((try simp (disch := omega) only [w32_of, w64_of, w8_of]) <;> first | assumption | omega | (split <;> omega) | (refine And.intro ?_ ?_ <;> split <;> omega)) | omega) (fun x_26 e_x_26 => ?_)
          rw [FC_plan (t := shape_0) frσ_20 (by first | assumption | decide | omega) (NS_0 _)] at e_x_26
          try simp (disch := omega) only [w32_of, w64_of, w8_of] at e_x_26
          have c14 := congrFun (FC_plan (t := shape_0) flσ_20 (by first | assumption | decide | omega) (NS_0 _)) (at_5 + 1)
          have c15 := congrFun (FC_plan (t := shape_0) flσ_18 (by first | assumption | decide | omega) (NS_0 _)) (at_5 + 1)
          have c16 := congrFun (FC_plan (t := shape_0) frσ_6 (by first | assumption | decide | omega) (NS_0 _)) (at_5 + 1)
          have c17 := w32_rng x_26
          refine wp_bd (s_O_putBytes (σ := σ_20) (value_0 := (w32 x_26)) (bytes_0 := 4) hσ_20 (by (try dsimp only) <;> first | assumption | omega | ((try simp (disch := omega) only [w32_of, w64_of, w8_of]) <;> first | assumption | omega | (split <;> omega) | (refine And.intro ?_ ?_ <;> split <;> omega)) | omega)) ?_
          rintro σ_29 - ⟨hσ_29, flσ_29r⟩
          have flσ_29 := FC_of flσ_29r (by decide)
          have frσ_29 : FC [kO_lowFirst, kO_row, kO_size] [] σ σ_29 := FC_tr frσ_20 flσ_29 (by first | decide | (rcases hE with rfl | rfl | rfl <;> decide)) (by first | decide | (rcases hE with rfl | rfl | rfl <;> decide)) (by simp) (by simp)
          exact wp_some ⟨hσ_29, frσ_29⟩
        · try simp (disch := omega) only [w32_of, w64_of, w8_of, decide_eq_true_eq, decide_eq_false_iff_not, Bool.not_eq_true] at c13
          refine wp_bd (P := fun rr_ => II rr_ ∧ FC [kO_lowFirst, kO_row, kO_size] [] σ rr_) ?_ ?_
          · refine wp_rdI (by (try dsimp only) <;> first | assumption | omega | ((try simp (disch := omega) only [w32_of, w64_of, w8_of]) <;> first | assumption | omega | (split <;> omega) | (refine And.intro ?_ ?_ <;> split <;> omega)) | omega) (by (try dsimp only) <;> first | assumption | omega | ((try simp (disch := omega) only [w32_of, w64_of, w8_of]) <;> first | assumption | omega | (split <;> omega) | (refine And.intro ?_ ?_ <;> split <;> omega)) | omega) (fun x_35 e_x_35 => ?_)
            rw [FC_plan (t := shape_0) frσ_20 (by first | assumption | decide | omega) (NS_0 _)] at e_x_35
            try simp (disch := omega) only [w32_of, w64_of, w8_of] at e_x_35
            have c18 := congrFun (FC_plan (t := shape_0) flσ_20 (by first | assumption | decide | omega) (NS_0 _)) (at_5 + 1)
            have c19 := congrFun (FC_plan (t := shape_0) flσ_18 (by first | assumption | decide | omega) (NS_0 _)) (at_5 + 1)
            have c20 := congrFun (FC_plan (t := shape_0) frσ_6 (by first | assumption | decide | omega) (NS_0 _)) (at_5 + 1)
            have c22 := w32_rng x_35
            refine wp_if (fun c21 => ?_) (fun c21 => ?_)
            · try simp (disch := omega) only [w32_of, w64_of, w8_of, decide_eq_true_eq, decide_eq_false_iff_not, Bool.not_eq_true] at c21
              refine wp_bd (s_O_putBytes (σ := σ_20) (value_0 := 9221120237041090560) (bytes_0 := 8) hσ_20 (by (try dsimp only) <;> first | assumption | omega | ((try simp (disch := omega) only [w32_of, w64_of, w8_of]) <;> first | assumption | omega | (split <;> omega) | (refine And.intro ?_ ?_ <;> split <;> omega)) | omega)) ?_
              rintro σ_39 - ⟨hσ_39, flσ_39r⟩
              have flσ_39 := FC_of flσ_39r (by decide)
              have frσ_39 : FC [kO_lowFirst, kO_row, kO_size] [] σ σ_39 := FC_tr frσ_20 flσ_39 (by first | decide | (rcases hE with rfl | rfl | rfl <;> decide)) (by first | decide | (rcases hE with rfl | rfl | rfl <;> decide)) (by simp) (by simp)
              refine wp_bd (s_O_putBytes (σ := σ_39) (value_0 := 9221120237041090560) (bytes_0 := 8) hσ_39 (by (try dsimp only) <;> first | assumption | omega | ((try simp (disch := omega) only [w32_of, w64_of, w8_of]) <;> first | assumption | omega | (split <;> omega) | (refine And.intro ?_ ?_ <;> split <;> omega)) | omega)) ?_
              rintro σ_41 - ⟨hσ_41, flσ_41r⟩
              have flσ_41 := FC_of flσ_41r (by decide)
              have frσ_41 : FC [kO_lowFirst, kO_row, kO_size] [] σ σ_41 := FC_tr frσ_39 flσ_41 (by first | decide | (rcases hE with rfl | rfl | rfl <;> decide)) (by first | decide | (rcases hE with rfl | rfl | rfl <;> decide)) (by simp) (by simp)
              exact wp_some ⟨hσ_41, frσ_41⟩
            · try simp (disch := omega) only [w32_of, w64_of, w8_of, decide_eq_true_eq, decide_eq_false_iff_not, Bool.not_eq_true] at c21
              exact wp_some ⟨hσ_20, frσ_20⟩
          rintro σ_44 _ ⟨hσ_44, frσ_44⟩
          exact wp_some ⟨hσ_44, frσ_44⟩
      rintro σ_47 _ ⟨hσ_47, frσ_47⟩
      refine wp_bd (P := fun rr_ => II rr_.2.2 ∧ FC [kO_lowFirst, kO_row, kO_size] [] σ rr_.2.2 ∧ (rr_.1 = from_4 + eP (σ (kA_plan shape_0)) at_5)) ?_ ?_
      · refine wp_whl (fun ss_ => II ss_.2.2 ∧ FC [kO_lowFirst, kO_row, kO_size] [] σ ss_.2.2 ∧ (0 ≤ ss_.2.1 ∧ ss_.2.1 ≤ rN (σ (kA_plan shape_0)) at_5) ∧ (ss_.1 = from_4 + rS (σ (kA_plan shape_0)) at_5 ss_.2.1)) (fun ss_ => (rN (σ (kA_plan shape_0)) at_5 - ss_.2.1).toNat) ⟨hσ_47, frσ_47, (by (try dsimp only) <;> first | assumption | omega | ((try simp (disch := omega) only [w32_of, w64_of, w8_of]) <;> first | assumption | omega | (split <;> omega) | (refine And.intro ?_ ?_ <;> split <;> omega)) | omega), (by (try dsimp only) <;> (first | (rw [rS_0]; omega) | omega))⟩ ?_
        rintro ⟨from_48, row_49, σ_50⟩ y24
        try dsimp only at y24 ⊢
        obtain ⟨hσ_50, frσ_50, g23, hfr⟩ := y24
        refine wp_bd (s_A_rows (σ := σ_50) (this_0 := shape_0) (at_0 := at_5) hσ_50 (by first | assumption | decide | omega) (ENa_f frσ_50 (by first | assumption | decide | omega) (NS_0 _) he)) ?_
        rintro x_59 - ⟨g25, g26⟩
        try simp only [FC_plan (t := shape_0) frσ_50 (by first | assumption | decide | omega) (NS_0 _)] at g25
        try simp (disch := omega) only [w32_of, w64_of, w8_of] at g25
        try simp (disch := omega) only [w32_of, w64_of, w8_of] at g26
        have c28 := w32_rng row_49
        have c29 := w32_rng x_59
        refine wp_if (fun c27 => ?_) (fun c27 => ?_)
        · try simp (disch := omega) only [w32_of, w64_of, w8_of, decide_eq_true_eq, decide_eq_false_iff_not, Bool.not_eq_true] at c27
          have hg := rS_go ho (show 0 ≤ row_49 by omega) (by omega)
          refine wp_bd (s_A_rowLength (σ := σ_50) (this_0 := shape_0) (at_0 := at_5) (row_0 := row_49) hσ_50 (by first | assumption | decide | omega) (ENa_f frσ_50 (by first | assumption | decide | omega) (NS_0 _) he) (by (try simp only [FC_plan (t := shape_0) frσ_50 (by first | assumption | decide | omega) (NS_0 _)]) <;> ((try dsimp only) <;> first | assumption | omega | ((try simp (disch := omega) only [w32_of, w64_of, w8_of]) <;> first | assumption | omega | (split <;> omega) | (refine And.intro ?_ ?_ <;> split <;> omega)) | omega))) ?_
          rintro x_62 - ⟨g30, g31⟩
          try simp only [FC_plan (t := shape_0) frσ_50 (by first | assumption | decide | omega) (NS_0 _)] at g30
          try simp (disch := omega) only [w32_of, w64_of, w8_of] at g30
          try simp (disch := omega) only [w32_of, w64_of, w8_of] at g31
          refine wp_bd (P := fun rr_ => II rr_ ∧ FC [kO_lowFirst, kO_row, kO_size] [] σ rr_) ?_ ?_
          · refine wp_if (fun c32 => ?_) (fun c32 => ?_)
            · try simp (disch := omega) only [w32_of, w64_of, w8_of, decide_eq_true_eq, decide_eq_false_iff_not, Bool.not_eq_true] at c32
              have c33 := w32_rng x_62
              refine wp_bd (s_O_putBytes (σ := σ_50) (value_0 := (w32 x_62)) (bytes_0 := 4) hσ_50 (by (try dsimp only) <;> first | assumption | omega | ((try simp (disch := omega) only [w32_of, w64_of, w8_of]) <;> first | assumption | omega | (split <;> omega) | (refine And.intro ?_ ?_ <;> split <;> omega)) | omega)) ?_
              rintro σ_69 - ⟨hσ_69, flσ_69r⟩
              have flσ_69 := FC_of flσ_69r (by decide)
              have frσ_69 : FC [kO_lowFirst, kO_row, kO_size] [] σ σ_69 := FC_tr frσ_50 flσ_69 (by first | decide | (rcases hE with rfl | rfl | rfl <;> decide)) (by first | decide | (rcases hE with rfl | rfl | rfl <;> decide)) (by simp) (by simp)
              exact wp_some ⟨hσ_69, frσ_69⟩
            · try simp (disch := omega) only [w32_of, w64_of, w8_of, decide_eq_true_eq, decide_eq_false_iff_not, Bool.not_eq_true] at c32
              exact wp_some ⟨hσ_50, frσ_50⟩
          rintro σ_72 _ ⟨hσ_72, frσ_72⟩
          refine wp_bd (P := fun rr_ => II rr_.2 ∧ FC [kO_lowFirst, kO_row, kO_size] [] σ rr_.2 ∧ (True)) ?_ ?_
          · refine wp_whl (fun ss_ => II ss_.2 ∧ FC [kO_lowFirst, kO_row, kO_size] [] σ ss_.2 ∧ (from_48 ≤ ss_.1 ∧ ss_.1 ≤ from_48 + x_62)) (fun ss_ => (from_48 + x_62 - ss_.1).toNat) ⟨hσ_72, frσ_72, (by (try dsimp only) <;> first | assumption | omega | ((try simp (disch := omega) only [w32_of, w64_of, w8_of]) <;> first | assumption | omega | (split <;> omega) | (refine And.intro ?_ ?_ <;> split <;> omega)) | omega)⟩ ?_
            rintro ⟨i_73, σ_74⟩ y35
            try dsimp only at y35 ⊢
            obtain ⟨hσ_74, frσ_74, g34⟩ := y35
            have c37 := w32_rng i_73
            have c38 := w32_rng (from_48 + x_62)
            refine wp_if (fun c36 => ?_) (fun c36 => ?_)
            · try simp (disch := omega) only [w32_of, w64_of, w8_of, decide_eq_true_eq, decide_eq_false_iff_not, Bool.not_eq_true] at c36
              refine wp_rdI (by (try dsimp only) <;> first | assumption | omega | ((try simp (disch := omega) only [w32_of, w64_of, w8_of]) <;> first | assumption | omega | (split <;> omega) | (refine And.intro ?_ ?_ <;> split <;> omega)) | omega) (by (try dsimp only) <;> first | assumption | omega | ((try simp (disch := omega) only [w32_of, w64_of, w8_of]) <;> first | assumption | omega | (split <;> omega) | (refine And.intro ?_ ?_ <;> split <;> omega)) | omega) (fun x_83 e_x_83 => ?_)
              have b_x_83 : (-1000000000) ≤ x_83 ∧ x_83 ≤ 1000000000 := by rw [e_x_83]; exact iiA_x (s := shape_0) hσ_74 (by first | assumption | decide | omega) _
              rw [FC_x (t := shape_0) frσ_74 (by first | assumption | decide | omega) (NS_0 _)] at e_x_83
              try simp (disch := omega) only [w32_of, w64_of, w8_of] at e_x_83
              have c39 := iiA_x (s := shape_0) hσ_74 (by first | assumption | decide | omega) i_73
              have c40 := congrFun (FC_x (t := shape_0) frσ_74 (by first | assumption | decide | omega) (NS_0 _)) i_73
              have c41 := iiA_x (s := shape_0) hσ (by first | assumption | decide | omega) i_73
              refine wp_bd (s_O_bitsOf (σ := σ_74) (units_0 := x_83) hσ_74 (by (try dsimp only) <;> first | assumption | omega | ((try simp (disch := omega) only [w32_of, w64_of, w8_of]) <;> first | assumption | omega | (split <;> omega) | (refine And.intro ?_ ?_ <;> split <;> omega)) | omega)) ?_
              rintro x_86 - -
              refine wp_bd (s_O_putBytes (σ := σ_74) (value_0 := x_86) (bytes_0 := 8) hσ_74 (by (try dsimp only) <;> first | assumption | omega | ((try simp (disch := omega) only [w32_of, w64_of, w8_of]) <;> first | assumption | omega | (split <;> omega) | (refine And.intro ?_ ?_ <;> split <;> omega)) | omega)) ?_
              rintro σ_88 - ⟨hσ_88, flσ_88r⟩
              have flσ_88 := FC_of flσ_88r (by decide)
              have frσ_88 : FC [kO_lowFirst, kO_row, kO_size] [] σ σ_88 := FC_tr frσ_74 flσ_88 (by first | decide | (rcases hE with rfl | rfl | rfl <;> decide)) (by first | decide | (rcases hE with rfl | rfl | rfl <;> decide)) (by simp) (by simp)
              refine wp_rdI (by (try dsimp only) <;> first | assumption | omega | ((try simp (disch := omega) only [w32_of, w64_of, w8_of]) <;> first | assumption | omega | (split <;> omega) | (refine And.intro ?_ ?_ <;> split <;> omega)) | omega) (by (try dsimp only) <;> first | assumption | omega | ((try simp (disch := omega) only [w32_of, w64_of, w8_of]) <;> first | assumption | omega | (split <;> omega) | (refine And.intro ?_ ?_ <;> split <;> omega)) | omega) (fun x_89 e_x_89 => ?_)
              have b_x_89 : (-1000000000) ≤ x_89 ∧ x_89 ≤ 1000000000 := by rw [e_x_89]; exact iiA_y (s := shape_0) hσ_88 (by first | assumption | decide | omega) _
              rw [FC_y (t := shape_0) frσ_88 (by first | assumption | decide | omega) (NS_0 _)] at e_x_89
              try simp (disch := omega) only [w32_of, w64_of, w8_of] at e_x_89
              have c43 := iiA_y (s := shape_0) hσ_88 (by first | assumption | decide | omega) i_73
              have c44 := congrFun (FC_y (t := shape_0) flσ_88 (by first | assumption | decide | omega) (NS_0 _)) i_73
              have c45 := iiA_y (s := shape_0) hσ_74 (by first | assumption | decide | omega) i_73
              have c46 := congrFun (FC_y (t := shape_0) frσ_74 (by first | assumption | decide | omega) (NS_0 _)) i_73
              have c47 := iiA_y (s := shape_0) hσ (by first | assumption | decide | omega) i_73
              refine wp_bd (s_O_bitsOf (σ := σ_88) (units_0 := x_89) hσ_88 (by (try dsimp only) <;> first | assumption | omega | ((try simp (disch := omega) only [w32_of, w64_of, w8_of]) <;> first | assumption | omega | (split <;> omega) | (refine And.intro ?_ ?_ <;> split <;> omega)) | omega)) ?_
              rintro x_92 - -
              refine wp_bd (s_O_putBytes (σ := σ_88) (value_0 := x_92) (bytes_0 := 8) hσ_88 (by (try dsimp only) <;> first | assumption | omega | ((try simp (disch := omega) only [w32_of, w64_of, w8_of]) <;> first | assumption | omega | (split <;> omega) | (refine And.intro ?_ ?_ <;> split <;> omega)) | omega)) ?_
              rintro σ_94 - ⟨hσ_94, flσ_94r⟩
              have flσ_94 := FC_of flσ_94r (by decide)
              have frσ_94 : FC [kO_lowFirst, kO_row, kO_size] [] σ σ_94 := FC_tr frσ_88 flσ_94 (by first | decide | (rcases hE with rfl | rfl | rfl <;> decide)) (by first | decide | (rcases hE with rfl | rfl | rfl <;> decide)) (by simp) (by simp)
              exact wp_some (x_inl ⟨⟨hσ_94, frσ_94, (by (try dsimp only) <;> first | assumption | omega | ((try simp (disch := omega) only [w32_of, w64_of, w8_of]) <;> first | assumption | omega | (split <;> omega) | (refine And.intro ?_ ?_ <;> split <;> omega)) | omega)⟩, (by (try dsimp only) <;> first | assumption | omega | ((try simp (disch := omega) only [w32_of, w64_of, w8_of]) <;> first | assumption | omega | (split <;> omega) | (refine And.intro ?_ ?_ <;> split <;> omega)) | omega)⟩)
            · try simp (disch := omega) only [w32_of, w64_of, w8_of, decide_eq_true_eq, decide_eq_false_iff_not, Bool.not_eq_true] at c36
              exact wp_some (x_inr ⟨hσ_74, frσ_74, (by (try dsimp only) <;> first | assumption | omega | ((try simp (disch := omega) only [w32_of, w64_of, w8_of]) <;> first | assumption | omega | (split <;> omega) | (refine And.intro ?_ ?_ <;> split <;> omega)) | omega)⟩)
          rintro ⟨i_97, σ_98⟩ _ y50
          try dsimp only at y50 ⊢
          obtain ⟨hσ_98, frσ_98, g49⟩ := y50
          exact wp_some (x_inl ⟨⟨hσ_98, frσ_98, (by (try dsimp only) <;> first | assumption | omega | ((try simp (disch := omega) only [w32_of, w64_of, w8_of]) <;> first | assumption | omega | (split <;> omega) | (refine And.intro ?_ ?_ <;> split <;> omega)) | omega), (by (try dsimp only) <;> (first | (rw [rS_0]; omega) | omega))⟩, (by (try dsimp only) <;> first | assumption | omega | ((try simp (disch := omega) only [w32_of, w64_of, w8_of]) <;> first | assumption | omega | (split <;> omega) | (refine And.intro ?_ ?_ <;> split <;> omega)) | omega)⟩)
        · try simp (disch := omega) only [w32_of, w64_of, w8_of, decide_eq_true_eq, decide_eq_false_iff_not, Bool.not_eq_true] at c27
          have hz : row_49 = rN (σ (kA_plan shape_0)) at_5 := by omega
          rw [hz, hRe.1] at hfr
          exact wp_some (x_inr ⟨hσ_50, frσ_50, (by (try dsimp only) <;> (omega))⟩)
      rintro ⟨from_103, row_104, σ_105⟩ _ y51
      try dsimp only at y51 ⊢
      obtain ⟨hσ_105, frσ_105, hfe⟩ := y51
      refine wp_bd (s_A_behind (σ := σ_105) (this_0 := shape_0) (at_0 := at_5) hσ_105 (by first | assumption | decide | omega) (ENa_f frσ_105 (by first | assumption | decide | omega) (NS_0 _) he)) ?_
      rintro x_107 - hbh
      try simp only [FC_plan (t := shape_0) frσ_105 (by first | assumption | decide | omega) (NS_0 _)] at hbh
      try simp (disch := omega) only [w32_of, w64_of, w8_of] at hbh
      exact wp_some (x_inl ⟨⟨hσ_105, frσ_105, (by (try dsimp only) <;> (first | assumption | exact FLa_0 w0 | (rw [hbh, hfe]; exact hn)))⟩, (by (try dsimp only) <;> first | assumption | omega | ((try simp (disch := omega) only [w32_of, w64_of, w8_of]) <;> first | assumption | omega | (split <;> omega) | (refine And.intro ?_ ?_ <;> split <;> omega)) | omega)⟩)
    · try simp (disch := omega) only [w32_of, w64_of, w8_of, decide_eq_true_eq, decide_eq_false_iff_not, Bool.not_eq_true] at c4
      exact wp_some (x_inr ⟨hσ_6, frσ_6, (by (try dsimp only) <;> first | assumption | omega | ((try simp (disch := omega) only [w32_of, w64_of, w8_of]) <;> first | assumption | omega | (split <;> omega) | (refine And.intro ?_ ?_ <;> split <;> omega)) | omega)⟩)
  rintro ⟨from_112, at_113, σ_114⟩ _ y53
  try dsimp only at y53 ⊢
  obtain ⟨hσ_114, frσ_114, g52⟩ := y53
  have c54 := ii_kO_size hσ_114 0
  exact wp_some ⟨hσ_114, frσ_114, (by (try dsimp only) <;> first | assumption | omega | ((try simp (disch := omega) only [w32_of, w64_of, w8_of]) <;> first | assumption | omega | (split <;> omega) | (refine And.intro ?_ ?_ <;> split <;> omega)) | omega)⟩
