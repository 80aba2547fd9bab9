theorem s_T_wayX {σ : SG} {i_0 : Int} (hσ : II σ) (w0 : 0 ≤ i_0 ∧ i_0 ≤ 255) : wp_ (fT_wayX σ i_0) (fun zz_ => (-2000000000 ≤ zz_ ∧ zz_ ≤ 2000000000)) := by
  unfold fT_wayX
  have c1 := w32_rng i_0
  refine wp_rdI (by (try dsimp only) <;> first | assumption | omega | ((try simp (disch := omega) only [w32_of, w64_of, w8_of]) <;> first | assumption | omega | (split <;> omega) | (refine And.intro ?_ ?_ <;> split <;> omega)) | omega) (by (try dsimp only) <;> first | assumption | omega | ((try simp (disch := omega) only [w32_of, w64_of, w8_of]) <;> first | assumption | omega | (split <;> omega) | (refine And.intro ?_ ?_ <;> split <;> omega)) | omega) (fun x_1 e_x_1 => ?_)
  have b_x_1 : (-1000000000) ≤ x_1 ∧ x_1 ≤ 1000000000 := by rw [e_x_1]; exact iiE_bx (s := 223) hσ (by decide) _
  try simp (disch := omega) only [w32_of, w64_of, w8_of] at e_x_1
  have c2 : (-1000000000) ≤ σ 57856 i_0 ∧ σ 57856 i_0 ≤ 1000000000 := iiE_bx (s := 223) hσ (by decide) i_0
  refine wp_rdI (by (try dsimp only) <;> first | assumption | omega | ((try simp (disch := omega) only [w32_of, w64_of, w8_of]) <;> first | assumption | omega | (split <;> omega) | (refine And.intro ?_ ?_ <;> split <;> omega)) | omega) (by (try dsimp only) <;> first | assumption | omega | ((try simp (disch := omega) only [w32_of, w64_of, w8_of]) <;> first | assumption | omega | (split <;> omega) | (refine And.intro ?_ ?_ <;> split <;> omega)) | omega) (fun x_3 e_x_3 => ?_)
  have b_x_3 : (-1000000000) ≤ x_3 ∧ x_3 ≤ 1000000000 := by rw [e_x_3]; exact iiE_ax (s := 223) hσ (by decide) _
  try simp (disch := omega) only [w32_of, w64_of, w8_of] at e_x_3
  have c3 : (-1000000000) ≤ σ 57344 i_0 ∧ σ 57344 i_0 ≤ 1000000000 := iiE_ax (s := 223) hσ (by decide) i_0
  exact wp_some (by (try dsimp only) <;> first | assumption | omega | ((try simp (disch := omega) only [w32_of, w64_of, w8_of]) <;> first | assumption | omega | (split <;> omega) | (refine And.intro ?_ ?_ <;> split <;> omega)) | omega)
theorem s_T_wayY {σ : SG} {i_0 : Int} (hσ : II σ) (w0 : 0 ≤ i_0 ∧ i_0 ≤ 255) : wp_ (fT_wayY σ i_0) (fun zz_ => (-2000000000 ≤ zz_ ∧ zz_ ≤ 2000000000)) := by
  unfold fT_wayY
  have c1 := w32_rng i_0
  refine wp_rdI (by (try dsimp only) <;> first | assumption | omega | ((try simp (disch := omega) only [w32_of, w64_of, w8_of]) <;> first | assumption | omega | (split <;> omega) | (refine And.intro ?_ ?_ <;> split <;> omega)) | omega) (by (try dsimp only) <;> first | assumption | omega | ((try simp (disch := omega) only [w32_of, w64_of, w8_of]) <;> first | assumption | omega | (split <;> omega) | (refine And.intro ?_ ?_ <;> split <;> omega)) | omega) (fun x_1 e_x_1 => ?_)
  have b_x_1 : (-1000000000) ≤ x_1 ∧ x_1 ≤ 1000000000 := by rw [e_x_1]; exact iiE_by (s := 223) hσ (by decide) _
  try simp (disch := omega) only [w32_of, w64_of, w8_of] at e_x_1
  have c2 : (-1000000000) ≤ σ 58112 i_0 ∧ σ 58112 i_0 ≤ 1000000000 := iiE_by (s := 223) hσ (by decide) i_0
  refine wp_rdI (by (try dsimp only) <;> first | assumption | omega | ((try simp (disch := omega) only [w32_of, w64_of, w8_of]) <;> first | assumption | omega | (split <;> omega) | (refine And.intro ?_ ?_ <;> split <;> omega)) | omega) (by (try dsimp only) <;> first | assumption | omega | ((try simp (disch := omega) only [w32_of, w64_of, w8_of]) <;> first | assumption | omega | (split <;> omega) | (refine And.intro ?_ ?_ <;> split <;> omega)) | omega) (fun x_3 e_x_3 => ?_)
  have b_x_3 : (-1000000000) ≤ x_3 ∧ x_3 ≤ 1000000000 := by rw [e_x_3]; exact iiE_ay (s := 223) hσ (by decide) _
  try simp (disch := omega) only [w32_of, w64_of, w8_of] at e_x_3
  have c3 : (-1000000000) ≤ σ 57600 i_0 ∧ σ 57600 i_0 ≤ 1000000000 := iiE_ay (s := 223) hσ (by decide) i_0
  exact wp_some (by (try dsimp only) <;> first | assumption | omega | ((try simp (disch := omega) only [w32_of, w64_of, w8_of]) <;> first | assumption | omega | (split <;> omega) | (refine And.intro ?_ ?_ <;> split <;> omega)) | omega)
theorem s_T_isAbove {σ : SG} {y_0 : Int} {i_0 : Int} {itsShare_0 : Int} {itsWhole_0 : Int} (hσ : II σ) (w0 : 0 ≤ i_0 ∧ i_0 ≤ 255) : wp_ (fT_isAbove σ y_0 i_0 itsShare_0 itsWhole_0) (fun zz_ => True) := by
  unfold fT_isAbove
  have c1 := w32_rng i_0
  refine wp_rdI (by (try dsimp only) <;> first | assumption | omega | ((try simp (disch := omega) only [w32_of, w64_of, w8_of]) <;> first | assumption | omega | (split <;> omega) | (refine And.intro ?_ ?_ <;> split <;> omega)) | omega) (by (try dsimp only) <;> first | assumption | omega | ((try simp (disch := omega) only [w32_of, w64_of, w8_of]) <;> first | assumption | omega | (split <;> omega) | (refine And.intro ?_ ?_ <;> split <;> omega)) | omega) (fun x_1 e_x_1 => ?_)
  have b_x_1 : (-1000000000) ≤ x_1 ∧ x_1 ≤ 1000000000 := by rw [e_x_1]; exact iiE_ay (s := 223) hσ (by decide) _
  try simp (disch := omega) only [w32_of, w64_of, w8_of] at e_x_1
  have c2 : (-1000000000) ≤ σ 57600 i_0 ∧ σ 57600 i_0 ≤ 1000000000 := iiE_ay (s := 223) hσ (by decide) i_0
  refine wp_bd (s_T_wayY (σ := σ) (i_0 := i_0) hσ (by (try dsimp only) <;> first | assumption | omega | ((try simp (disch := omega) only [w32_of, w64_of, w8_of]) <;> first | assumption | omega | (split <;> omega) | (refine And.intro ?_ ?_ <;> split <;> omega)) | omega)) ?_
  rintro x_4 - g3
  try simp (disch := omega) only [w32_of, w64_of, w8_of] at g3
  have c4 := w32_rng y_0
  have c5 := w32_rng x_1
  have c6 := p_Q_signOfSum (a_0 := ((w32 y_0) - (w32 x_1))) (b_0 := itsWhole_0) (c_0 := (-x_4)) (d_0 := itsShare_0) (e_0 := 0) (f_0 := 0)
  refine wp_lt (fun x_5 e_x_5 => ?_)
  try simp (disch := omega) only [w32_of, w64_of, w8_of] at e_x_5
  refine wp_bd (P := fun rr_ => (True)) ?_ ?_
  · have c8 := w32_rng x_5
    refine wp_if (fun c7 => ?_) (fun c7 => ?_)
    · try simp (disch := omega) only [w32_of, w64_of, w8_of, decide_eq_true_eq, decide_eq_false_iff_not, Bool.not_eq_true] at c7
      refine wp_bd (s_T_wayY (σ := σ) (i_0 := i_0) hσ (by (try dsimp only) <;> first | assumption | omega | ((try simp (disch := omega) only [w32_of, w64_of, w8_of]) <;> first | assumption | omega | (split <;> omega) | (refine And.intro ?_ ?_ <;> split <;> omega)) | omega)) ?_
      rintro x_12 - g9
      try simp (disch := omega) only [w32_of, w64_of, w8_of] at g9
      exact wp_some (by (try dsimp only) <;> first | assumption | omega | ((try simp (disch := omega) only [w32_of, w64_of, w8_of]) <;> first | assumption | omega | (split <;> omega) | (refine And.intro ?_ ?_ <;> split <;> omega)) | omega)
    · try simp (disch := omega) only [w32_of, w64_of, w8_of, decide_eq_true_eq, decide_eq_false_iff_not, Bool.not_eq_true] at c7
      exact wp_some (by (try dsimp only) <;> first | assumption | omega | ((try simp (disch := omega) only [w32_of, w64_of, w8_of]) <;> first | assumption | omega | (split <;> omega) | (refine And.intro ?_ ?_ <;> split <;> omega)) | omega)
  rintro height_15 _ g10
  refine wp_bd (P := fun rr_ => True) ?_ ?_
  · have c12 := w32_rng height_15
    refine wp_if (fun c11 => ?_) (fun c11 => ?_)
    · try simp (disch := omega) only [w32_of, w64_of, w8_of, decide_eq_true_eq, decide_eq_false_iff_not, Bool.not_eq_true] at c11
      exact wp_some trivial
    · try simp (disch := omega) only [w32_of, w64_of, w8_of, decide_eq_true_eq, decide_eq_false_iff_not, Bool.not_eq_true] at c11
      refine wp_bd (P := fun rr_ => True) ?_ ?_
      · refine wp_bd (s_T_wayX (σ := σ) (i_0 := i_0) hσ (by (try dsimp only) <;> first | assumption | omega | ((try simp (disch := omega) only [w32_of, w64_of, w8_of]) <;> first | assumption | omega | (split <;> omega) | (refine And.intro ?_ ?_ <;> split <;> omega)) | omega)) ?_
        rintro x_33 - g13
        try simp (disch := omega) only [w32_of, w64_of, w8_of] at g13
        have c15 := w64_rng x_33
        refine wp_if (fun c14 => ?_) (fun c14 => ?_)
        · try simp (disch := omega) only [w32_of, w64_of, w8_of, decide_eq_true_eq, decide_eq_false_iff_not, Bool.not_eq_true] at c14
          exact wp_some trivial
        · try simp (disch := omega) only [w32_of, w64_of, w8_of, decide_eq_true_eq, decide_eq_false_iff_not, Bool.not_eq_true] at c14
          exact wp_some trivial
      rintro x_37 _ -
      exact wp_some trivial
  rintro x_43 _ -
  exact wp_some trivial
theorem s_T_isCovered {σ : SG} {i_0 : Int} {itsShare_0 : Int} {itsWhole_0 : Int} {k_0 : Int} (hσ : II σ) (w0 : 0 ≤ i_0 ∧ i_0 ≤ 255) (w1 : 0 ≤ k_0 ∧ k_0 ≤ 255) : wp_ (fT_isCovered σ i_0 itsShare_0 itsWhole_0 k_0) (fun zz_ => True) := by
  unfold fT_isCovered
  refine wp_bd (P := fun rr_ => True) ?_ ?_
  · refine wp_bd (s_T_wayX (σ := σ) (i_0 := i_0) hσ (by (try dsimp only) <;> first | assumption | omega | ((try simp (disch := omega) only [w32_of, w64_of, w8_of]) <;> first | assumption | omega | (split <;> omega) | (refine And.intro ?_ ?_ <;> split <;> omega)) | omega)) ?_
    rintro x_2 - g1
    try simp (disch := omega) only [w32_of, w64_of, w8_of] at g1
    have c3 := w64_rng x_2
    refine wp_if (fun c2 => ?_) (fun c2 => ?_)
    · try simp (disch := omega) only [w32_of, w64_of, w8_of, decide_eq_true_eq, decide_eq_false_iff_not, Bool.not_eq_true] at c2
      exact wp_some trivial
    · try simp (disch := omega) only [w32_of, w64_of, w8_of, decide_eq_true_eq, decide_eq_false_iff_not, Bool.not_eq_true] at c2
      exact wp_some trivial
  rintro x_6 _ -
  refine wp_bd (P := fun rr_ => (True)) ?_ ?_
  · refine wp_if (fun c4 => ?_) (fun c4 => ?_)
    · try simp (disch := omega) only [w32_of, w64_of, w8_of, decide_eq_true_eq, decide_eq_false_iff_not, Bool.not_eq_true] at c4
      refine wp_bd (s_T_wayX (σ := σ) (i_0 := i_0) hσ (by (try dsimp only) <;> first | assumption | omega | ((try simp (disch := omega) only [w32_of, w64_of, w8_of]) <;> first | assumption | omega | (split <;> omega) | (refine And.intro ?_ ?_ <;> split <;> omega)) | omega)) ?_
      rintro x_13 - g5
      try simp (disch := omega) only [w32_of, w64_of, w8_of] at g5
      exact wp_some (by (try dsimp only) <;> first | assumption | omega | ((try simp (disch := omega) only [w32_of, w64_of, w8_of]) <;> first | assumption | omega | (split <;> omega) | (refine And.intro ?_ ?_ <;> split <;> omega)) | omega)
    · try simp (disch := omega) only [w32_of, w64_of, w8_of, decide_eq_true_eq, decide_eq_false_iff_not, Bool.not_eq_true] at c4
      refine wp_bd (s_T_wayY (σ := σ) (i_0 := i_0) hσ (by (try dsimp only) <;> first | assumption | omega | ((try simp (disch := omega) only [w32_of, w64_of, w8_of]) <;> first | assumption | omega | (split <;> omega) | (refine And.intro ?_ ?_ <;> split <;> omega)) | omega)) ?_
      rintro x_16 - g6
      try simp (disch := omega) only [w32_of, w64_of, w8_of] at g6
      exact wp_some (by (try dsimp only) <;> first | assumption | omega | ((try simp (disch := omega) only [w32_of, w64_of, w8_of]) <;> first | assumption | omega | (split <;> omega) | (refine And.intro ?_ ?_ <;> split <;> omega)) | omega)
  rintro x_18 _ g7
  refine wp_bd (P := fun rr_ => (True)) ?_ ?_
  · refine wp_if (fun c8 => ?_) (fun c8 => ?_)
    · try simp (disch := omega) only [w32_of, w64_of, w8_of, decide_eq_true_eq, decide_eq_false_iff_not, Bool.not_eq_true] at c8
      have c9 := w32_rng k_0
      refine wp_rdI (by (try dsimp only) <;> first | assumption | omega | ((try simp (disch := omega) only [w32_of, w64_of, w8_of]) <;> first | assumption | omega | (split <;> omega) | (refine And.intro ?_ ?_ <;> split <;> omega)) | omega) (by (try dsimp only) <;> first | assumption | omega | ((try simp (disch := omega) only [w32_of, w64_of, w8_of]) <;> first | assumption | omega | (split <;> omega) | (refine And.intro ?_ ?_ <;> split <;> omega)) | omega) (fun x_28 e_x_28 => ?_)
      have b_x_28 : (-1000000000) ≤ x_28 ∧ x_28 ≤ 1000000000 := by rw [e_x_28]; exact iiE_ax (s := 223) hσ (by decide) _
      try simp (disch := omega) only [w32_of, w64_of, w8_of] at e_x_28
      have c10 : (-1000000000) ≤ σ 57344 k_0 ∧ σ 57344 k_0 ≤ 1000000000 := iiE_ax (s := 223) hσ (by decide) k_0
      have c11 := w32_rng i_0
      refine wp_rdI (by (try dsimp only) <;> first | assumption | omega | ((try simp (disch := omega) only [w32_of, w64_of, w8_of]) <;> first | assumption | omega | (split <;> omega) | (refine And.intro ?_ ?_ <;> split <;> omega)) | omega) (by (try dsimp only) <;> first | assumption | omega | ((try simp (disch := omega) only [w32_of, w64_of, w8_of]) <;> first | assumption | omega | (split <;> omega) | (refine And.intro ?_ ?_ <;> split <;> omega)) | omega) (fun x_30 e_x_30 => ?_)
      have b_x_30 : (-1000000000) ≤ x_30 ∧ x_30 ≤ 1000000000 := by rw [e_x_30]; exact iiE_ax (s := 223) hσ (by decide) _
      try simp (disch := omega) only [w32_of, w64_of, w8_of] at e_x_30
      have c12 : (-1000000000) ≤ σ 57344 i_0 ∧ σ 57344 i_0 ≤ 1000000000 := iiE_ax (s := 223) hσ (by decide) i_0
      exact wp_some (by (try dsimp only) <;> first | assumption | omega | ((try simp (disch := omega) only [w32_of, w64_of, w8_of]) <;> first | assumption | omega | (split <;> omega) | (refine And.intro ?_ ?_ <;> split <;> omega)) | omega)
    · try simp (disch := omega) only [w32_of, w64_of, w8_of, decide_eq_true_eq, decide_eq_false_iff_not, Bool.not_eq_true] at c8
      have c13 := w32_rng k_0
      refine wp_rdI (by (try dsimp only) <;> first | assumption | omega | ((try simp (disch := omega) only [w32_of, w64_of, w8_of]) <;> first | assumption | omega | (split <;> omega) | (refine And.intro ?_ ?_ <;> split <;> omega)) | omega) (by (try dsimp only) <;> first | assumption | omega | ((try simp (disch := omega) only [w32_of, w64_of, w8_of]) <;> first | assumption | omega | (split <;> omega) | (refine And.intro ?_ ?_ <;> split <;> omega)) | omega) (fun x_33 e_x_33 => ?_)
      have b_x_33 : (-1000000000) ≤ x_33 ∧ x_33 ≤ 1000000000 := by rw [e_x_33]; exact iiE_ay (s := 223) hσ (by decide) _
      try simp (disch := omega) only [w32_of, w64_of, w8_of] at e_x_33
      have c14 : (-1000000000) ≤ σ 57600 k_0 ∧ σ 57600 k_0 ≤ 1000000000 := iiE_ay (s := 223) hσ (by decide) k_0
      have c15 := w32_rng i_0
      refine wp_rdI (by (try dsimp only) <;> first | assumption | omega | ((try simp (disch := omega) only [w32_of, w64_of, w8_of]) <;> first | assumption | omega | (split <;> omega) | (refine And.intro ?_ ?_ <;> split <;> omega)) | omega) (by (try dsimp only) <;> first | assumption | omega | ((try simp (disch := omega) only [w32_of, w64_of, w8_of]) <;> first | assumption | omega | (split <;> omega) | (refine And.intro ?_ ?_ <;> split <;> omega)) | omega) (fun x_35 e_x_35 => ?_)
      have b_x_35 : (-1000000000) ≤ x_35 ∧ x_35 ≤ 1000000000 := by rw [e_x_35]; exact iiE_ay (s := 223) hσ (by decide) _
      try simp (disch := omega) only [w32_of, w64_of, w8_of] at e_x_35
      have c16 : (-1000000000) ≤ σ 57600 i_0 ∧ σ 57600 i_0 ≤ 1000000000 := iiE_ay (s := 223) hσ (by decide) i_0
      exact wp_some (by (try dsimp only) <;> first | assumption | omega | ((try simp (disch := omega) only [w32_of, w64_of, w8_of]) <;> first | assumption | omega | (split <;> omega) | (refine And.intro ?_ ?_ <;> split <;> omega)) | omega)
  rintro x_38 _ g17
  refine wp_bd (P := fun rr_ => (True)) ?_ ?_
  · refine wp_if (fun c18 => ?_) (fun c18 => ?_)
    · try simp (disch := omega) only [w32_of, w64_of, w8_of, decide_eq_true_eq, decide_eq_false_iff_not, Bool.not_eq_true] at c18
      have c19 := w32_rng k_0
      refine wp_rdI (by (try dsimp only) <;> first | assumption | omega | ((try simp (disch := omega) only [w32_of, w64_of, w8_of]) <;> first | assumption | omega | (split <;> omega) | (refine And.intro ?_ ?_ <;> split <;> omega)) | omega) (by (try dsimp only) <;> first | assumption | omega | ((try simp (disch := omega) only [w32_of, w64_of, w8_of]) <;> first | assumption | omega | (split <;> omega) | (refine And.intro ?_ ?_ <;> split <;> omega)) | omega) (fun x_48 e_x_48 => ?_)
      have b_x_48 : (-1000000000) ≤ x_48 ∧ x_48 ≤ 1000000000 := by rw [e_x_48]; exact iiE_bx (s := 223) hσ (by decide) _
      try simp (disch := omega) only [w32_of, w64_of, w8_of] at e_x_48
      have c20 : (-1000000000) ≤ σ 57856 k_0 ∧ σ 57856 k_0 ≤ 1000000000 := iiE_bx (s := 223) hσ (by decide) k_0
      have c21 := w32_rng i_0
      refine wp_rdI (by (try dsimp only) <;> first | assumption | omega | ((try simp (disch := omega) only [w32_of, w64_of, w8_of]) <;> first | assumption | omega | (split <;> omega) | (refine And.intro ?_ ?_ <;> split <;> omega)) | omega) (by (try dsimp only) <;> first | assumption | omega | ((try simp (disch := omega) only [w32_of, w64_of, w8_of]) <;> first | assumption | omega | (split <;> omega) | (refine And.intro ?_ ?_ <;> split <;> omega)) | omega) (fun x_50 e_x_50 => ?_)
      have b_x_50 : (-1000000000) ≤ x_50 ∧ x_50 ≤ 1000000000 := by rw [e_x_50]; exact iiE_ax (s := 223) hσ (by decide) _
      try simp (disch := omega) only [w32_of, w64_of, w8_of] at e_x_50
      have c22 : (-1000000000) ≤ σ 57344 i_0 ∧ σ 57344 i_0 ≤ 1000000000 := iiE_ax (s := 223) hσ (by decide) i_0
      exact wp_some (by (try dsimp only) <;> first | assumption | omega | ((try simp (disch := omega) only [w32_of, w64_of, w8_of]) <;> first | assumption | omega | (split <;> omega) | (refine And.intro ?_ ?_ <;> split <;> omega)) | omega)
    · try simp (disch := omega) only [w32_of, w64_of, w8_of, decide_eq_true_eq, decide_eq_false_iff_not, Bool.not_eq_true] at c18
      have c23 := w32_rng k_0
      refine wp_rdI (by (try dsimp only) <;> first | assumption | omega | ((try simp (disch := omega) only [w32_of, w64_of, w8_of]) <;> first | assumption | omega | (split <;> omega) | (refine And.intro ?_ ?_ <;> split <;> omega)) | omega) (by (try dsimp only) <;> first | assumption | omega | ((try simp (disch := omega) only [w32_of, w64_of, w8_of]) <;> first | assumption | omega | (split <;> omega) | (refine And.intro ?_ ?_ <;> split <;> omega)) | omega) (fun x_53 e_x_53 => ?_)
      have b_x_53 : (-1000000000) ≤ x_53 ∧ x_53 ≤ 1000000000 := by rw [e_x_53]; exact iiE_by (s := 223) hσ (by decide) _
      try simp (disch := omega) only [w32_of, w64_of, w8_of] at e_x_53
      have c24 : (-1000000000) ≤ σ 58112 k_0 ∧ σ 58112 k_0 ≤ 1000000000 := iiE_by (s := 223) hσ (by decide) k_0
      have c25 := w32_rng i_0
      refine wp_rdI (by (try dsimp only) <;> first | assumption | omega | ((try simp (disch := omega) only [w32_of, w64_of, w8_of]) <;> first | assumption | omega | (split <;> omega) | (refine And.intro ?_ ?_ <;> split <;> omega)) | omega) (by (try dsimp only) <;> first | assumption | omega | ((try simp (disch := omega) only [w32_of, w64_of, w8_of]) <;> first | assumption | omega | (split <;> omega) | (refine And.intro ?_ ?_ <;> split <;> omega)) | omega) (fun x_55 e_x_55 => ?_)
      have b_x_55 : (-1000000000) ≤ x_55 ∧ x_55 ≤ 1000000000 := by rw [e_x_55]; exact iiE_ay (s := 223) hσ (by decide) _
      try simp (disch := omega) only [w32_of, w64_of, w8_of] at e_x_55
      have c26 : (-1000000000) ≤ σ 57600 i_0 ∧ σ 57600 i_0 ≤ 1000000000 := iiE_ay (s := 223) hσ (by decide) i_0
      exact wp_some (by (try dsimp only) <;> first | assumption | omega | ((try simp (disch := omega) only [w32_of, w64_of, w8_of]) <;> first | assumption | omega | (split <;> omega) | (refine And.intro ?_ ?_ <;> split <;> omega)) | omega)
  rintro x_58 _ g27
  have c28 := w64_rng x_18
  have c29 := q_mnl_bd x_38 x_58
  try simp (disch := omega) only [w32_of, w64_of, w8_of] at c29
  have c30 := q_mxl_bd x_38 x_58
  try simp (disch := omega) only [w32_of, w64_of, w8_of] at c30
  refine wp_lt (fun x_60 e_x_60 => ?_)
  try simp (disch := omega) only [w32_of, w64_of, w8_of] at e_x_60
  refine wp_lt (fun x_62 e_x_62 => ?_)
  try simp (disch := omega) only [w32_of, w64_of, w8_of] at e_x_62
  exact wp_some trivial
theorem s_T_countSegment {σ : SG} {i_0 : Int} {itsShare_0 : Int} {itsWhole_0 : Int} {k_0 : Int} (hσ : II σ) (w0 : 0 ≤ i_0 ∧ i_0 ≤ 255) (w1 : 0 ≤ k_0 ∧ k_0 ≤ 255) : wp_ (fT_countSegment σ i_0 itsShare_0 itsWhole_0 k_0) (fun zz_ => II zz_ ∧ FC [kT_covers, kT_crossed] [] σ zz_) := by
  unfold fT_countSegment
  have c1 := w32_rng k_0
  refine wp_rdI (by (try dsimp only) <;> first | assumption | omega | ((try simp (disch := omega) only [w32_of, w64_of, w8_of]) <;> first | assumption | omega | (split <;> omega) | (refine And.intro ?_ ?_ <;> split <;> omega)) | omega) (by (try dsimp only) <;> first | assumption | omega | ((try simp (disch := omega) only [w32_of, w64_of, w8_of]) <;> first | assumption | omega | (split <;> omega) | (refine And.intro ?_ ?_ <;> split <;> omega)) | omega) (fun x_1 e_x_1 => ?_)
  have b_x_1 : 0 ≤ x_1 ∧ x_1 ≤ 1 := by rw [e_x_1]; exact iiE_mark223 hσ _
  try simp (disch := omega) only [w32_of, w64_of, w8_of] at e_x_1
  have c2 : 0 ≤ σ 58368 k_0 ∧ σ 58368 k_0 ≤ 1 := iiE_mark223 hσ k_0
  refine wp_rdI (by (try dsimp only) <;> first | assumption | omega | ((try simp (disch := omega) only [w32_of, w64_of, w8_of]) <;> first | assumption | omega | (split <;> omega) | (refine And.intro ?_ ?_ <;> split <;> omega)) | omega) (by (try dsimp only) <;> first | assumption | omega | ((try simp (disch := omega) only [w32_of, w64_of, w8_of]) <;> first | assumption | omega | (split <;> omega) | (refine And.intro ?_ ?_ <;> split <;> omega)) | omega) (fun x_3 e_x_3 => ?_)
  have b_x_3 : (-1000000000) ≤ x_3 ∧ x_3 ≤ 1000000000 := by rw [e_x_3]; exact iiE_ay (s := 223) hσ (by decide) _
  try simp (disch := omega) only [w32_of, w64_of, w8_of] at e_x_3
  have c3 : (-1000000000) ≤ σ 57600 k_0 ∧ σ 57600 k_0 ≤ 1000000000 := iiE_ay (s := 223) hσ (by decide) k_0
  refine wp_bd (s_T_isAbove (σ := σ) (y_0 := x_3) (i_0 := i_0) (itsShare_0 := itsShare_0) (itsWhole_0 := itsWhole_0) hσ (by (try dsimp only) <;> first | assumption | omega | ((try simp (disch := omega) only [w32_of, w64_of, w8_of]) <;> first | assumption | omega | (split <;> omega) | (refine And.intro ?_ ?_ <;> split <;> omega)) | omega)) ?_
  rintro x_6 - -
  refine wp_rdI (by (try dsimp only) <;> first | assumption | omega | ((try simp (disch := omega) only [w32_of, w64_of, w8_of]) <;> first | assumption | omega | (split <;> omega) | (refine And.intro ?_ ?_ <;> split <;> omega)) | omega) (by (try dsimp only) <;> first | assumption | omega | ((try simp (disch := omega) only [w32_of, w64_of, w8_of]) <;> first | assumption | omega | (split <;> omega) | (refine And.intro ?_ ?_ <;> split <;> omega)) | omega) (fun x_7 e_x_7 => ?_)
  have b_x_7 : (-1000000000) ≤ x_7 ∧ x_7 ≤ 1000000000 := by rw [e_x_7]; exact iiE_by (s := 223) hσ (by decide) _
  try simp (disch := omega) only [w32_of, w64_of, w8_of] at e_x_7
  have c5 : (-1000000000) ≤ σ 58112 k_0 ∧ σ 58112 k_0 ≤ 1000000000 := iiE_by (s := 223) hσ (by decide) k_0
  refine wp_bd (s_T_isAbove (σ := σ) (y_0 := x_7) (i_0 := i_0) (itsShare_0 := itsShare_0) (itsWhole_0 := itsWhole_0) hσ (by (try dsimp only) <;> first | assumption | omega | ((try simp (disch := omega) only [w32_of, w64_of, w8_of]) <;> first | assumption | omega | (split <;> omega) | (refine And.intro ?_ ?_ <;> split <;> omega)) | omega)) ?_
  rintro x_10 - -
  refine wp_bd (s_T_wayX (σ := σ) (i_0 := k_0) hσ (by (try dsimp only) <;> first | assumption | omega | ((try simp (disch := omega) only [w32_of, w64_of, w8_of]) <;> first | assumption | omega | (split <;> omega) | (refine And.intro ?_ ?_ <;> split <;> omega)) | omega)) ?_
  rintro x_12 - g7
  try simp (disch := omega) only [w32_of, w64_of, w8_of] at g7
  refine wp_bd (s_T_wayY (σ := σ) (i_0 := i_0) hσ (by (try dsimp only) <;> first | assumption | omega | ((try simp (disch := omega) only [w32_of, w64_of, w8_of]) <;> first | assumption | omega | (split <;> omega) | (refine And.intro ?_ ?_ <;> split <;> omega)) | omega)) ?_
  rintro x_14 - g8
  try simp (disch := omega) only [w32_of, w64_of, w8_of] at g8
  refine wp_bd (s_T_wayY (σ := σ) (i_0 := k_0) hσ (by (try dsimp only) <;> first | assumption | omega | ((try simp (disch := omega) only [w32_of, w64_of, w8_of]) <;> first | assumption | omega | (split <;> omega) | (refine And.intro ?_ ?_ <;> split <;> omega)) | omega)) ?_
  rintro x_16 - g9
  try simp (disch := omega) only [w32_of, w64_of, w8_of] at g9
  refine wp_bd (s_T_wayX (σ := σ) (i_0 := i_0) hσ (by (try dsimp only) <;> first | assumption | omega | ((try simp (disch := omega) only [w32_of, w64_of, w8_of]) <;> first | assumption | omega | (split <;> omega) | (refine And.intro ?_ ?_ <;> split <;> omega)) | omega)) ?_
  rintro x_18 - g10
  try simp (disch := omega) only [w32_of, w64_of, w8_of] at g10
  refine wp_bd (s_T_wayX (σ := σ) (i_0 := k_0) hσ (by (try dsimp only) <;> first | assumption | omega | ((try simp (disch := omega) only [w32_of, w64_of, w8_of]) <;> first | assumption | omega | (split <;> omega) | (refine And.intro ?_ ?_ <;> split <;> omega)) | omega)) ?_
  rintro x_20 - g11
  try simp (disch := omega) only [w32_of, w64_of, w8_of] at g11
  have c12 := w32_rng i_0
  refine wp_rdI (by (try dsimp only) <;> first | assumption | omega | ((try simp (disch := omega) only [w32_of, w64_of, w8_of]) <;> first | assumption | omega | (split <;> omega) | (refine And.intro ?_ ?_ <;> split <;> omega)) | omega) (by (try dsimp only) <;> first | assumption | omega | ((try simp (disch := omega) only [w32_of, w64_of, w8_of]) <;> first | assumption | omega | (split <;> omega) | (refine And.intro ?_ ?_ <;> split <;> omega)) | omega) (fun x_21 e_x_21 => ?_)
  have b_x_21 : (-1000000000) ≤ x_21 ∧ x_21 ≤ 1000000000 := by rw [e_x_21]; exact iiE_ay (s := 223) hσ (by decide) _
  try simp (disch := omega) only [w32_of, w64_of, w8_of] at e_x_21
  have c13 : (-1000000000) ≤ σ 57600 i_0 ∧ σ 57600 i_0 ≤ 1000000000 := iiE_ay (s := 223) hσ (by decide) i_0
  refine wp_rdI (by (try dsimp only) <;> first | assumption | omega | ((try simp (disch := omega) only [w32_of, w64_of, w8_of]) <;> first | assumption | omega | (split <;> omega) | (refine And.intro ?_ ?_ <;> split <;> omega)) | omega) (by (try dsimp only) <;> first | assumption | omega | ((try simp (disch := omega) only [w32_of, w64_of, w8_of]) <;> first | assumption | omega | (split <;> omega) | (refine And.intro ?_ ?_ <;> split <;> omega)) | omega) (fun x_23 e_x_23 => ?_)
  have b_x_23 : (-1000000000) ≤ x_23 ∧ x_23 ≤ 1000000000 := by rw [e_x_23]; exact iiE_ay (s := 223) hσ (by decide) _
  try simp (disch := omega) only [w32_of, w64_of, w8_of] at e_x_23
  refine wp_bd (s_T_wayY (σ := σ) (i_0 := k_0) hσ (by (try dsimp only) <;> first | assumption | omega | ((try simp (disch := omega) only [w32_of, w64_of, w8_of]) <;> first | assumption | omega | (split <;> omega) | (refine And.intro ?_ ?_ <;> split <;> omega)) | omega)) ?_
  rintro x_26 - g14
  try simp (disch := omega) only [w32_of, w64_of, w8_of] at g14
  refine wp_rdI (by (try dsimp only) <;> first | assumption | omega | ((try simp (disch := omega) only [w32_of, w64_of, w8_of]) <;> first | assumption | omega | (split <;> omega) | (refine And.intro ?_ ?_ <;> split <;> omega)) | omega) (by (try dsimp only) <;> first | assumption | omega | ((try simp (disch := omega) only [w32_of, w64_of, w8_of]) <;> first | assumption | omega | (split <;> omega) | (refine And.intro ?_ ?_ <;> split <;> omega)) | omega) (fun x_27 e_x_27 => ?_)
  have b_x_27 : (-1000000000) ≤ x_27 ∧ x_27 ≤ 1000000000 := by rw [e_x_27]; exact iiE_ax (s := 223) hσ (by decide) _
  try simp (disch := omega) only [w32_of, w64_of, w8_of] at e_x_27
  have c15 : (-1000000000) ≤ σ 57344 i_0 ∧ σ 57344 i_0 ≤ 1000000000 := iiE_ax (s := 223) hσ (by decide) i_0
  refine wp_rdI (by (try dsimp only) <;> first | assumption | omega | ((try simp (disch := omega) only [w32_of, w64_of, w8_of]) <;> first | assumption | omega | (split <;> omega) | (refine And.intro ?_ ?_ <;> split <;> omega)) | omega) (by (try dsimp only) <;> first | assumption | omega | ((try simp (disch := omega) only [w32_of, w64_of, w8_of]) <;> first | assumption | omega | (split <;> omega) | (refine And.intro ?_ ?_ <;> split <;> omega)) | omega) (fun x_29 e_x_29 => ?_)
  have b_x_29 : (-1000000000) ≤ x_29 ∧ x_29 ≤ 1000000000 := by rw [e_x_29]; exact iiE_ax (s := 223) hσ (by decide) _
  try simp (disch := omega) only [w32_of, w64_of, w8_of] at e_x_29
  have c16 : (-1000000000) ≤ σ 57344 k_0 ∧ σ 57344 k_0 ≤ 1000000000 := iiE_ax (s := 223) hσ (by decide) k_0
  have c17 := w32_rng x_21
  have c18 := w32_rng x_23
  have c19 := w32_rng x_27
  have c20 := w32_rng x_29
  refine wp_lt (fun x_31 e_x_31 => ?_)
  try simp (disch := omega) only [w32_of, w64_of, w8_of] at e_x_31
  refine wp_bd (P := fun rr_ => II rr_ ∧ FC [kT_covers, kT_crossed] [] σ rr_) ?_ ?_
  · have c22 := w64_rng ((x_12 * x_14) - (x_16 * x_18))
    have c23 := w64_rng x_31
    refine wp_if (fun c21 => ?_) (fun c21 => ?_)
    · try simp (disch := omega) only [w32_of, w64_of, w8_of, decide_eq_true_eq, decide_eq_false_iff_not, Bool.not_eq_true] at c21
      have c24 := w32_rng x_1
      refine wp_rdI (by (try dsimp only) <;> first | assumption | omega | ((try simp (disch := omega) only [w32_of, w64_of, w8_of]) <;> first | assumption | omega | (split <;> omega) | (refine And.intro ?_ ?_ <;> split <;> omega)) | omega) (by (try dsimp only) <;> first | assumption | omega | ((try simp (disch := omega) only [w32_of, w64_of, w8_of]) <;> first | assumption | omega | (split <;> omega) | (refine And.intro ?_ ?_ <;> split <;> omega)) | omega) (fun x_36 e_x_36 => ?_)
      try simp (disch := omega) only [w32_of, w64_of, w8_of] at e_x_36
      refine wp_bd (P := fun rr_ => (0 ≤ rr_ ∧ rr_ ≤ 1)) ?_ ?_
      · refine wp_bd (s_T_isCovered (σ := σ) (i_0 := i_0) (itsShare_0 := itsShare_0) (itsWhole_0 := itsWhole_0) (k_0 := k_0) hσ (by (try dsimp only) <;> first | assumption | omega | ((try simp (disch := omega) only [w32_of, w64_of, w8_of]) <;> first | assumption | omega | (split <;> omega) | (refine And.intro ?_ ?_ <;> split <;> omega)) | omega) (by (try dsimp only) <;> first | assumption | omega | ((try simp (disch := omega) only [w32_of, w64_of, w8_of]) <;> first | assumption | omega | (split <;> omega) | (refine And.intro ?_ ?_ <;> split <;> omega)) | omega)) ?_
        rintro x_39 - -
        refine wp_if (fun c26 => ?_) (fun c26 => ?_)
        · try simp (disch := omega) only [w32_of, w64_of, w8_of, decide_eq_true_eq, decide_eq_false_iff_not, Bool.not_eq_true] at c26
          exact wp_some (by (try dsimp only) <;> first | assumption | omega | ((try simp (disch := omega) only [w32_of, w64_of, w8_of]) <;> first | assumption | omega | (split <;> omega) | (refine And.intro ?_ ?_ <;> split <;> omega)) | omega)
        · try simp (disch := omega) only [w32_of, w64_of, w8_of, decide_eq_true_eq, decide_eq_false_iff_not, Bool.not_eq_true] at c26
          exact wp_some (by (try dsimp only) <;> first | assumption | omega | ((try simp (disch := omega) only [w32_of, w64_of, w8_of]) <;> first | assumption | omega | (split <;> omega) | (refine And.intro ?_ ?_ <;> split <;> omega)) | omega)
      rintro x_43 _ g27
      refine wp_waN hσ b_kT_covers (by (try dsimp only) <;> first | assumption | omega | ((try simp (disch := omega) only [w32_of, w64_of, w8_of]) <;> first | assumption | omega | (split <;> omega) | (refine And.intro ?_ ?_ <;> split <;> omega)) | omega) (by (try dsimp only) <;> first | assumption | omega | ((try simp (disch := omega) only [w32_of, w64_of, w8_of]) <;> first | assumption | omega | (split <;> omega) | (refine And.intro ?_ ?_ <;> split <;> omega)) | omega) (fun σ_44 hσ_44 eσ_44 => ?_)
      try simp (disch := omega) only [w32_of, w64_of, w8_of] at eσ_44
      have flσ_44 := FC_sg eσ_44 (by first | decide | (rcases hE with rfl | rfl | rfl <;> decide))
      have frσ_44 : FC [kT_covers, kT_crossed] [] σ σ_44 := FC_le flσ_44 (by first | decide | (rcases hE with rfl | rfl | rfl <;> decide)) (by simp)
      exact wp_some ⟨hσ_44, frσ_44⟩
    · try simp (disch := omega) only [w32_of, w64_of, w8_of, decide_eq_true_eq, decide_eq_false_iff_not, Bool.not_eq_true] at c21
      exact wp_some ⟨hσ, (FC_refl _ _ _)⟩
  rintro σ_59 _ ⟨hσ_59, frσ_59⟩
  refine wp_if (fun c28 => ?_) (fun c28 => ?_)
  · try simp (disch := omega) only [w32_of, w64_of, w8_of, decide_eq_true_eq, decide_eq_false_iff_not, Bool.not_eq_true] at c28
    exact wp_some ⟨hσ_59, frσ_59⟩
  · try simp (disch := omega) only [w32_of, w64_of, w8_of, decide_eq_true_eq, decide_eq_false_iff_not, Bool.not_eq_true] at c28
    have c29 := p_Q_signOfSum (a_0 := x_31) (b_0 := itsWhole_0) (c_0 := ((x_12 * x_14) - (x_16 * x_18))) (d_0 := itsShare_0) (e_0 := 0) (f_0 := 0)
    refine wp_lt (fun x_61 e_x_61 => ?_)
    try simp (disch := omega) only [w32_of, w64_of, w8_of] at e_x_61
    refine wp_bd (P := fun rr_ => ((-1) ≤ rr_ ∧ rr_ ≤ 1)) ?_ ?_
    · have c31 := w32_rng x_61
      refine wp_if (fun c30 => ?_) (fun c30 => ?_)
      · try simp (disch := omega) only [w32_of, w64_of, w8_of, decide_eq_true_eq, decide_eq_false_iff_not, Bool.not_eq_true] at c30
        have c32 := p_L_compare (x_0 := ((x_12 * x_14) - (x_16 * x_18))) (y_0 := 0)
        exact wp_some (by (try dsimp only) <;> first | assumption | omega | ((try simp (disch := omega) only [w32_of, w64_of, w8_of]) <;> first | assumption | omega | (split <;> omega) | (refine And.intro ?_ ?_ <;> split <;> omega)) | omega)
      · try simp (disch := omega) only [w32_of, w64_of, w8_of, decide_eq_true_eq, decide_eq_false_iff_not, Bool.not_eq_true] at c30
        exact wp_some (by (try dsimp only) <;> first | assumption | omega | ((try simp (disch := omega) only [w32_of, w64_of, w8_of]) <;> first | assumption | omega | (split <;> omega) | (refine And.intro ?_ ?_ <;> split <;> omega)) | omega)
    rintro turn_69 _ g33
    refine wp_bd (P := fun rr_ => ((-1) ≤ rr_ ∧ rr_ ≤ 1)) ?_ ?_
    · have c35 := w32_rng turn_69
      refine wp_if (fun c34 => ?_) (fun c34 => ?_)
      · try simp (disch := omega) only [w32_of, w64_of, w8_of, decide_eq_true_eq, decide_eq_false_iff_not, Bool.not_eq_true] at c34
        refine wp_bd (s_T_wayX (σ := σ_59) (i_0 := k_0) hσ_59 (by (try dsimp only) <;> first | assumption | omega | ((try simp (disch := omega) only [w32_of, w64_of, w8_of]) <;> first | assumption | omega | (split <;> omega) | (refine And.intro ?_ ?_ <;> split <;> omega)) | omega)) ?_
        rintro x_76 - g36
        try simp (disch := omega) only [w32_of, w64_of, w8_of] at g36
        refine wp_bd (s_T_wayX (σ := σ_59) (i_0 := i_0) hσ_59 (by (try dsimp only) <;> first | assumption | omega | ((try simp (disch := omega) only [w32_of, w64_of, w8_of]) <;> first | assumption | omega | (split <;> omega) | (refine And.intro ?_ ?_ <;> split <;> omega)) | omega)) ?_
        rintro x_78 - g37
        try simp (disch := omega) only [w32_of, w64_of, w8_of] at g37
        refine wp_bd (s_T_wayY (σ := σ_59) (i_0 := k_0) hσ_59 (by (try dsimp only) <;> first | assumption | omega | ((try simp (disch := omega) only [w32_of, w64_of, w8_of]) <;> first | assumption | omega | (split <;> omega) | (refine And.intro ?_ ?_ <;> split <;> omega)) | omega)) ?_
        rintro x_80 - g38
        try simp (disch := omega) only [w32_of, w64_of, w8_of] at g38
        refine wp_bd (s_T_wayY (σ := σ_59) (i_0 := i_0) hσ_59 (by (try dsimp only) <;> first | assumption | omega | ((try simp (disch := omega) only [w32_of, w64_of, w8_of]) <;> first | assumption | omega | (split <;> omega) | (refine And.intro ?_ ?_ <;> split <;> omega)) | omega)) ?_
        rintro x_82 - g39
        try simp (disch := omega) only [w32_of, w64_of, w8_of] at g39
        have c40 := p_L_compare (x_0 := ((x_76 * x_78) + (x_80 * x_82))) (y_0 := 0)
        exact wp_some (by (try dsimp only) <;> first | assumption | omega | ((try simp (disch := omega) only [w32_of, w64_of, w8_of]) <;> first | assumption | omega | (split <;> omega) | (refine And.intro ?_ ?_ <;> split <;> omega)) | omega)
      · try simp (disch := omega) only [w32_of, w64_of, w8_of, decide_eq_true_eq, decide_eq_false_iff_not, Bool.not_eq_true] at c34
        exact wp_some (by (try dsimp only) <;> first | assumption | omega | ((try simp (disch := omega) only [w32_of, w64_of, w8_of]) <;> first | assumption | omega | (split <;> omega) | (refine And.intro ?_ ?_ <;> split <;> omega)) | omega)
    rintro turn_85 _ g41
    have c42 := w32_rng x_1
    refine wp_rdI (by (try dsimp only) <;> first | assumption | omega | ((try simp (disch := omega) only [w32_of, w64_of, w8_of]) <;> first | assumption | omega | (split <;> omega) | (refine And.intro ?_ ?_ <;> split <;> omega)) | omega) (by (try dsimp only) <;> first | assumption | omega | ((try simp (disch := omega) only [w32_of, w64_of, w8_of]) <;> first | assumption | omega | (split <;> omega) | (refine And.intro ?_ ?_ <;> split <;> omega)) | omega) (fun x_86 e_x_86 => ?_)
    try simp (disch := omega) only [w32_of, w64_of, w8_of] at e_x_86
    have c43 := w32_rng turn_85
    refine wp_waN hσ_59 b_kT_crossed (by (try dsimp only) <;> first | assumption | omega | ((try simp (disch := omega) only [w32_of, w64_of, w8_of]) <;> first | assumption | omega | (split <;> omega) | (refine And.intro ?_ ?_ <;> split <;> omega)) | omega) (by (try dsimp only) <;> first | assumption | omega | ((try simp (disch := omega) only [w32_of, w64_of, w8_of]) <;> first | assumption | omega | (split <;> omega) | (refine And.intro ?_ ?_ <;> split <;> omega)) | omega) (fun σ_89 hσ_89 eσ_89 => ?_)
    try simp (disch := omega) only [w32_of, w64_of, w8_of] at eσ_89
    have flσ_89 := FC_sg eσ_89 (by first | decide | (rcases hE with rfl | rfl | rfl <;> decide))
    have frσ_89 : FC [kT_covers, kT_crossed] [] σ σ_89 := FC_tr frσ_59 flσ_89 (by first | decide | (rcases hE with rfl | rfl | rfl <;> decide)) (by first | decide | (rcases hE with rfl | rfl | rfl <;> decide)) (by simp) (by simp)
    exact wp_some ⟨hσ_89, frσ_89⟩
theorem s_T_isArea {σ : SG} {shape_0 : Nat} (hσ : II σ) (hs_shape_0 : isS shape_0) : wp_ (fT_isArea σ shape_0) (fun zz_ => True) := by
  unfold fT_isArea
  refine wp_bdk ?_
  refine wp_bd (s_A_kind (σ := σ) (this_0 := shape_0) hσ (by first | assumption | decide | omega)) ?_
  rintro x_2 - g1
  have c2 := iiA_plans (s := shape_0) hσ (by first | assumption | decide | omega) 0
  try simp (disch := omega) only [w32_of, w64_of, w8_of] at g1
  have c4 := w32_rng x_2
  refine wp_if (fun c3 => ?_) (fun c3 => ?_)
  · try simp (disch := omega) only [w32_of, w64_of, w8_of, decide_eq_true_eq, decide_eq_false_iff_not, Bool.not_eq_true] at c3
    refine wp_somek ?_
    try dsimp only
    exact wp_some trivial
  · try simp (disch := omega) only [w32_of, w64_of, w8_of, decide_eq_true_eq, decide_eq_false_iff_not, Bool.not_eq_true] at c3
    refine wp_bd (s_A_kind (σ := σ) (this_0 := shape_0) hσ (by first | assumption | decide | omega)) ?_
    rintro x_6 - g5
    try simp (disch := omega) only [w32_of, w64_of, w8_of] at g5
    have c7 := w32_rng x_6
    refine wp_if (fun c6 => ?_) (fun c6 => ?_)
    · try simp (disch := omega) only [w32_of, w64_of, w8_of, decide_eq_true_eq, decide_eq_false_iff_not, Bool.not_eq_true] at c6
      refine wp_somek ?_
      try dsimp only
      exact wp_some trivial
    · try simp (disch := omega) only [w32_of, w64_of, w8_of, decide_eq_true_eq, decide_eq_false_iff_not, Bool.not_eq_true] at c6
      refine wp_somek ?_
      try dsimp only
      exact wp_some trivial
theorem s_T_isOfPoints {σ : SG} {shape_0 : Nat} (hσ : II σ) (hs_shape_0 : isS shape_0) : wp_ (fT_isOfPoints σ shape_0) (fun zz_ => True) := by
  unfold fT_isOfPoints
  refine wp_bdk ?_
  refine wp_bd (s_A_kind (σ := σ) (this_0 := shape_0) hσ (by first | assumption | decide | omega)) ?_
  rintro x_2 - g1
  have c2 := iiA_plans (s := shape_0) hσ (by first | assumption | decide | omega) 0
  try simp (disch := omega) only [w32_of, w64_of, w8_of] at g1
  have c4 := w32_rng x_2
  refine wp_if (fun c3 => ?_) (fun c3 => ?_)
  · try simp (disch := omega) only [w32_of, w64_of, w8_of, decide_eq_true_eq, decide_eq_false_iff_not, Bool.not_eq_true] at c3
    refine wp_somek ?_
    try dsimp only
    exact wp_some trivial
  · try simp (disch := omega) only [w32_of, w64_of, w8_of, decide_eq_true_eq, decide_eq_false_iff_not, Bool.not_eq_true] at c3
    refine wp_bd (s_A_kind (σ := σ) (this_0 := shape_0) hσ (by first | assumption | decide | omega)) ?_
    rintro x_6 - g5
    try simp (disch := omega) only [w32_of, w64_of, w8_of] at g5
    have c7 := w32_rng x_6
    refine wp_if (fun c6 => ?_) (fun c6 => ?_)
    · try simp (disch := omega) only [w32_of, w64_of, w8_of, decide_eq_true_eq, decide_eq_false_iff_not, Bool.not_eq_true] at c6
      refine wp_somek ?_
      try dsimp only
      exact wp_some trivial
    · try simp (disch := omega) only [w32_of, w64_of, w8_of, decide_eq_true_eq, decide_eq_false_iff_not, Bool.not_eq_true] at c6
      refine wp_somek ?_
      try dsimp only
      exact wp_some trivial
theorem s_T_isOfLines {σ : SG} {shape_0 : Nat} (hσ : II σ) (hs_shape_0 : isS shape_0) : wp_ (fT_isOfLines σ shape_0) (fun zz_ => True) := by
  unfold fT_isOfLines
  refine wp_bdk ?_
  refine wp_bd (s_A_kind (σ := σ) (this_0 := shape_0) hσ (by first | assumption | decide | omega)) ?_
  rintro x_2 - g1
  have c2 := iiA_plans (s := shape_0) hσ (by first | assumption | decide | omega) 0
  try simp (disch := omega) only [w32_of, w64_of, w8_of] at g1
  have c4 := w32_rng x_2
  refine wp_if (fun c3 => ?_) (fun c3 => ?_)
  · try simp (disch := omega) only [w32_of, w64_of, w8_of, decide_eq_true_eq, decide_eq_false_iff_not, Bool.not_eq_true] at c3
    refine wp_somek ?_
    try dsimp only
    exact wp_some trivial
  · try simp (disch := omega) only [w32_of, w64_of, w8_of, decide_eq_true_eq, decide_eq_false_iff_not, Bool.not_eq_true] at c3
    refine wp_bd (s_A_kind (σ := σ) (this_0 := shape_0) hσ (by first | assumption | decide | omega)) ?_
    rintro x_6 - g5
    try simp (disch := omega) only [w32_of, w64_of, w8_of] at g5
    have c7 := w32_rng x_6
    refine wp_if (fun c6 => ?_) (fun c6 => ?_)
    · try simp (disch := omega) only [w32_of, w64_of, w8_of, decide_eq_true_eq, decide_eq_false_iff_not, Bool.not_eq_true] at c6
      refine wp_somek ?_
      try dsimp only
      exact wp_some trivial
    · try simp (disch := omega) only [w32_of, w64_of, w8_of, decide_eq_true_eq, decide_eq_false_iff_not, Bool.not_eq_true] at c6
      refine wp_somek ?_
      try dsimp only
      exact wp_some trivial
theorem s_T_faceOf {σ : SG} {shape_0 : Nat} {crossed_0 : Int} (hσ : II σ) (hs_shape_0 : isS shape_0) : wp_ (fT_faceOf σ shape_0 crossed_0) (fun zz_ => (0 ≤ zz_ ∧ zz_ ≤ 2)) := by
  unfold fT_faceOf
  refine wp_bd (P := fun rr_ => (0 ≤ rr_ ∧ rr_ ≤ 2)) ?_ ?_
  · refine wp_bd (s_T_isArea (σ := σ) (shape_0 := shape_0) hσ (by first | assumption | decide | omega)) ?_
    rintro x_10 - -
    refine wp_if (fun c2 => ?_) (fun c2 => ?_)
    · try simp (disch := omega) only [w32_of, w64_of, w8_of, decide_eq_true_eq, decide_eq_false_iff_not, Bool.not_eq_true] at c2
      have c4 := q_ian_bd crossed_0 (m := 1) (by decide) (by decide)
      try simp (disch := omega) only [w32_of, w64_of, w8_of] at c4
      have c5 := w32_rng (q_ian crossed_0 1)
      refine wp_if (fun c3 => ?_) (fun c3 => ?_)
      · try simp (disch := omega) only [w32_of, w64_of, w8_of, decide_eq_true_eq, decide_eq_false_iff_not, Bool.not_eq_true] at c3
        exact wp_some (by (try dsimp only) <;> first | assumption | omega | ((try simp (disch := omega) only [w32_of, w64_of, w8_of]) <;> first | assumption | omega | (split <;> omega) | (refine And.intro ?_ ?_ <;> split <;> omega)) | omega)
      · try simp (disch := omega) only [w32_of, w64_of, w8_of, decide_eq_true_eq, decide_eq_false_iff_not, Bool.not_eq_true] at c3
        exact wp_some (by (try dsimp only) <;> first | assumption | omega | ((try simp (disch := omega) only [w32_of, w64_of, w8_of]) <;> first | assumption | omega | (split <;> omega) | (refine And.intro ?_ ?_ <;> split <;> omega)) | omega)
    · try simp (disch := omega) only [w32_of, w64_of, w8_of, decide_eq_true_eq, decide_eq_false_iff_not, Bool.not_eq_true] at c2
      exact wp_some (by (try dsimp only) <;> first | assumption | omega | ((try simp (disch := omega) only [w32_of, w64_of, w8_of]) <;> first | assumption | omega | (split <;> omega) | (refine And.intro ?_ ?_ <;> split <;> omega)) | omega)
  rintro x_16 _ g6
  exact wp_some (by (try dsimp only) <;> first | assumption | omega | ((try simp (disch := omega) only [w32_of, w64_of, w8_of]) <;> first | assumption | omega | (split <;> omega) | (refine And.intro ?_ ?_ <;> split <;> omega)) | omega)
theorem s_T_edgeOf {σ : SG} {shape_0 : Nat} {owner_0 : Int} (hσ : II σ) (hs_shape_0 : isS shape_0) (w0 : 0 ≤ owner_0 ∧ owner_0 ≤ 1) : wp_ (fT_edgeOf σ shape_0 owner_0) (fun zz_ => (0 ≤ zz_ ∧ zz_ ≤ 2)) := by
  unfold fT_edgeOf
  have c1 := w32_rng owner_0
  refine wp_rdI (by (try dsimp only) <;> first | assumption | omega | ((try simp (disch := omega) only [w32_of, w64_of, w8_of]) <;> first | assumption | omega | (split <;> omega) | (refine And.intro ?_ ?_ <;> split <;> omega)) | omega) (by (try dsimp only) <;> first | assumption | omega | ((try simp (disch := omega) only [w32_of, w64_of, w8_of]) <;> first | assumption | omega | (split <;> omega) | (refine And.intro ?_ ?_ <;> split <;> omega)) | omega) (fun x_1 e_x_1 => ?_)
  try simp (disch := omega) only [w32_of, w64_of, w8_of] at e_x_1
  have c3 := w32_rng x_1
  refine wp_if (fun c2 => ?_) (fun c2 => ?_)
  · try simp (disch := omega) only [w32_of, w64_of, w8_of, decide_eq_true_eq, decide_eq_false_iff_not, Bool.not_eq_true] at c2
    refine wp_bd (P := fun rr_ => (0 ≤ rr_ ∧ rr_ ≤ 1)) ?_ ?_
    · refine wp_bd (s_T_isArea (σ := σ) (shape_0 := shape_0) hσ (by first | assumption | decide | omega)) ?_
      rintro x_5 - -
      refine wp_if (fun c5 => ?_) (fun c5 => ?_)
      · try simp (disch := omega) only [w32_of, w64_of, w8_of, decide_eq_true_eq, decide_eq_false_iff_not, Bool.not_eq_true] at c5
        exact wp_some (by (try dsimp only) <;> first | assumption | omega | ((try simp (disch := omega) only [w32_of, w64_of, w8_of]) <;> first | assumption | omega | (split <;> omega) | (refine And.intro ?_ ?_ <;> split <;> omega)) | omega)
      · try simp (disch := omega) only [w32_of, w64_of, w8_of, decide_eq_true_eq, decide_eq_false_iff_not, Bool.not_eq_true] at c5
        exact wp_some (by (try dsimp only) <;> first | assumption | omega | ((try simp (disch := omega) only [w32_of, w64_of, w8_of]) <;> first | assumption | omega | (split <;> omega) | (refine And.intro ?_ ?_ <;> split <;> omega)) | omega)
    rintro x_9 _ g6
    exact wp_some (by (try dsimp only) <;> first | assumption | omega | ((try simp (disch := omega) only [w32_of, w64_of, w8_of]) <;> first | assumption | omega | (split <;> omega) | (refine And.intro ?_ ?_ <;> split <;> omega)) | omega)
  · try simp (disch := omega) only [w32_of, w64_of, w8_of, decide_eq_true_eq, decide_eq_false_iff_not, Bool.not_eq_true] at c2
    refine wp_rdI (by (try dsimp only) <;> first | assumption | omega | ((try simp (disch := omega) only [w32_of, w64_of, w8_of]) <;> first | assumption | omega | (split <;> omega) | (refine And.intro ?_ ?_ <;> split <;> omega)) | omega) (by (try dsimp only) <;> first | assumption | omega | ((try simp (disch := omega) only [w32_of, w64_of, w8_of]) <;> first | assumption | omega | (split <;> omega) | (refine And.intro ?_ ?_ <;> split <;> omega)) | omega) (fun x_14 e_x_14 => ?_)
    try simp (disch := omega) only [w32_of, w64_of, w8_of] at e_x_14
    refine wp_bd (s_T_faceOf (σ := σ) (shape_0 := shape_0) (crossed_0 := x_14) hσ (by first | assumption | decide | omega)) ?_
    rintro x_17 - g7
    try simp (disch := omega) only [w32_of, w64_of, w8_of] at g7
    exact wp_some (by (try dsimp only) <;> first | assumption | omega | ((try simp (disch := omega) only [w32_of, w64_of, w8_of]) <;> first | assumption | omega | (split <;> omega) | (refine And.intro ?_ ?_ <;> split <;> omega)) | omega)
theorem s_T_raise {σ : SG} {first_0 : Int} {second_0 : Int} {dimension_0 : Int} (hσ : II σ) (w0 : 0 ≤ first_0 ∧ first_0 ≤ 2) (w1 : 0 ≤ second_0 ∧ second_0 ≤ 2) (w2 : 0 ≤ dimension_0 ∧ dimension_0 ≤ 2) : wp_ (fT_raise σ first_0 second_0 dimension_0) (fun zz_ => II zz_ ∧ FC [kT_matrix] [] σ zz_) := by
  unfold fT_raise
  have c1 := w32_rng ((3 * first_0) + second_0)
  refine wp_rdI (by (try dsimp only) <;> first | assumption | omega | ((try simp (disch := omega) only [w32_of, w64_of, w8_of]) <;> first | assumption | omega | (split <;> omega) | (refine And.intro ?_ ?_ <;> split <;> omega)) | omega) (by (try dsimp only) <;> first | assumption | omega | ((try simp (disch := omega) only [w32_of, w64_of, w8_of]) <;> first | assumption | omega | (split <;> omega) | (refine And.intro ?_ ?_ <;> split <;> omega)) | omega) (fun x_1 e_x_1 => ?_)
  have b_x_1 : (-1) ≤ x_1 ∧ x_1 ≤ 2 := by rw [e_x_1]; exact ii_kT_matrix hσ _
  try simp (disch := omega) only [w32_of, w64_of, w8_of] at e_x_1
  have c2 := ii_kT_matrix hσ ((3 * first_0) + second_0)
  have c3 := q_mxi_bd x_1 dimension_0
  try simp (disch := omega) only [w32_of, w64_of, w8_of] at c3
  refine wp_waI hσ b_kT_matrix (by (try dsimp only) <;> first | assumption | omega | ((try simp (disch := omega) only [w32_of, w64_of, w8_of]) <;> first | assumption | omega | (split <;> omega) | (refine And.intro ?_ ?_ <;> split <;> omega)) | omega) (by (try dsimp only) <;> first | assumption | omega | ((try simp (disch := omega) only [w32_of, w64_of, w8_of]) <;> first | assumption | omega | (split <;> omega) | (refine And.intro ?_ ?_ <;> split <;> omega)) | omega) (by (try dsimp only) <;> first | assumption | omega | ((try simp (disch := omega) only [w32_of, w64_of, w8_of]) <;> first | assumption | omega | (split <;> omega) | (refine And.intro ?_ ?_ <;> split <;> omega)) | omega) (fun σ_3 hσ_3 eσ_3 => ?_)
  try simp (disch := omega) only [w32_of, w64_of, w8_of] at eσ_3
  have flσ_3 := FC_sg eσ_3 (by first | decide | (rcases hE with rfl | rfl | rfl <;> decide))
  have frσ_3 : FC [kT_matrix] [] σ σ_3 := FC_le flσ_3 (by first | decide | (rcases hE with rfl | rfl | rfl <;> decide)) (by simp)
  exact wp_some ⟨hσ_3, frσ_3⟩
theorem s_T_matrixNumber {σ : SG} (hσ : II σ) : wp_ (fT_matrixNumber σ) (fun zz_ => True) := by
  unfold fT_matrixNumber
  refine wp_bd (P := fun rr_ => (9 ≤ rr_.2 ∧ rr_.2 ≤ 9)) ?_ ?_
  · refine wp_whl (fun ss_ => (0 ≤ ss_.2 ∧ ss_.2 ≤ 9)) (fun ss_ => (10 - ss_.2).toNat) (by (try dsimp only) <;> first | assumption | omega | ((try simp (disch := omega) only [w32_of, w64_of, w8_of]) <;> first | assumption | omega | (split <;> omega) | (refine And.intro ?_ ?_ <;> split <;> omega)) | omega) ?_
    rintro ⟨value_1, at_2⟩ y2
    try dsimp only at y2 ⊢
    have g1 := y2
    have c4 := w32_rng at_2
    refine wp_if (fun c3 => ?_) (fun c3 => ?_)
    · try simp (disch := omega) only [w32_of, w64_of, w8_of, decide_eq_true_eq, decide_eq_false_iff_not, Bool.not_eq_true] at c3
      refine wp_rdI (by (try dsimp only) <;> first | assumption | omega | ((try simp (disch := omega) only [w32_of, w64_of, w8_of]) <;> first | assumption | omega | (split <;> omega) | (refine And.intro ?_ ?_ <;> split <;> omega)) | omega) (by (try dsimp only) <;> first | assumption | omega | ((try simp (disch := omega) only [w32_of, w64_of, w8_of]) <;> first | assumption | omega | (split <;> omega) | (refine And.intro ?_ ?_ <;> split <;> omega)) | omega) (fun x_11 e_x_11 => ?_)
      have b_x_11 : (-1) ≤ x_11 ∧ x_11 ≤ 2 := by rw [e_x_11]; exact ii_kT_matrix hσ _
      try simp (disch := omega) only [w32_of, w64_of, w8_of] at e_x_11
      have c5 := ii_kT_matrix hσ at_2
      exact wp_some (x_inl ⟨(by (try dsimp only) <;> first | assumption | omega | ((try simp (disch := omega) only [w32_of, w64_of, w8_of]) <;> first | assumption | omega | (split <;> omega) | (refine And.intro ?_ ?_ <;> split <;> omega)) | omega), (by (try dsimp only) <;> first | assumption | omega | ((try simp (disch := omega) only [w32_of, w64_of, w8_of]) <;> first | assumption | omega | (split <;> omega) | (refine And.intro ?_ ?_ <;> split <;> omega)) | omega)⟩)
    · try simp (disch := omega) only [w32_of, w64_of, w8_of, decide_eq_true_eq, decide_eq_false_iff_not, Bool.not_eq_true] at c3
      exact wp_some (x_inr (by (try dsimp only) <;> first | assumption | omega | ((try simp (disch := omega) only [w32_of, w64_of, w8_of]) <;> first | assumption | omega | (split <;> omega) | (refine And.intro ?_ ?_ <;> split <;> omega)) | omega))
  rintro ⟨value_15, at_16⟩ _ y7
  try dsimp only at y7 ⊢
  have g6 := y7
  exact wp_some trivial
theorem s_T_has {σ : SG} {first_0 : Int} {second_0 : Int} (hσ : II σ) (w0 : 0 ≤ first_0 ∧ first_0 ≤ 2) (w1 : 0 ≤ second_0 ∧ second_0 ≤ 2) : wp_ (fT_has σ first_0 second_0) (fun zz_ => True) := by
  unfold fT_has
  refine wp_bdk ?_
  have c1 := w32_rng ((3 * first_0) + second_0)
  refine wp_rdI (by (try dsimp only) <;> first | assumption | omega | ((try simp (disch := omega) only [w32_of, w64_of, w8_of]) <;> first | assumption | omega | (split <;> omega) | (refine And.intro ?_ ?_ <;> split <;> omega)) | omega) (by (try dsimp only) <;> first | assumption | omega | ((try simp (disch := omega) only [w32_of, w64_of, w8_of]) <;> first | assumption | omega | (split <;> omega) | (refine And.intro ?_ ?_ <;> split <;> omega)) | omega) (fun x_1 e_x_1 => ?_)
  have b_x_1 : (-1) ≤ x_1 ∧ x_1 ≤ 2 := by rw [e_x_1]; exact ii_kT_matrix hσ _
  try simp (disch := omega) only [w32_of, w64_of, w8_of] at e_x_1
  have c2 := ii_kT_matrix hσ ((3 * first_0) + second_0)
  have c4 := w32_rng x_1
  refine wp_if (fun c3 => ?_) (fun c3 => ?_)
  · try simp (disch := omega) only [w32_of, w64_of, w8_of, decide_eq_true_eq, decide_eq_false_iff_not, Bool.not_eq_true] at c3
    refine wp_somek ?_
    try dsimp only
    exact wp_some trivial
  · try simp (disch := omega) only [w32_of, w64_of, w8_of, decide_eq_true_eq, decide_eq_false_iff_not, Bool.not_eq_true] at c3
    refine wp_somek ?_
    try dsimp only
    exact wp_some trivial
theorem s_T_haveCommonPlace {σ : SG} (hσ : II σ) : wp_ (fT_haveCommonPlace σ) (fun zz_ => True) := by
  unfold fT_haveCommonPlace
  refine wp_bd (P := fun rr_ => True) ?_ ?_
  · refine wp_bd (s_T_has (σ := σ) (first_0 := 0) (second_0 := 0) hσ (by (try dsimp only) <;> first | assumption | omega | ((try simp (disch := omega) only [w32_of, w64_of, w8_of]) <;> first | assumption | omega | (split <;> omega) | (refine And.intro ?_ ?_ <;> split <;> omega)) | omega) (by (try dsimp only) <;> first | assumption | omega | ((try simp (disch := omega) only [w32_of, w64_of, w8_of]) <;> first | assumption | omega | (split <;> omega) | (refine And.intro ?_ ?_ <;> split <;> omega)) | omega)) ?_
    rintro x_2 - -
    refine wp_if (fun c2 => ?_) (fun c2 => ?_)
    · try simp (disch := omega) only [w32_of, w64_of, w8_of, decide_eq_true_eq, decide_eq_false_iff_not, Bool.not_eq_true] at c2
      exact wp_some trivial
    · try simp (disch := omega) only [w32_of, w64_of, w8_of, decide_eq_true_eq, decide_eq_false_iff_not, Bool.not_eq_true] at c2
      refine wp_bd (s_T_has (σ := σ) (first_0 := 0) (second_0 := 1) hσ (by (try dsimp only) <;> first | assumption | omega | ((try simp (disch := omega) only [w32_of, w64_of, w8_of]) <;> first | assumption | omega | (split <;> omega) | (refine And.intro ?_ ?_ <;> split <;> omega)) | omega) (by (try dsimp only) <;> first | assumption | omega | ((try simp (disch := omega) only [w32_of, w64_of, w8_of]) <;> first | assumption | omega | (split <;> omega) | (refine And.intro ?_ ?_ <;> split <;> omega)) | omega)) ?_
      rintro x_6 - -
      refine wp_if (fun c4 => ?_) (fun c4 => ?_)
      · try simp (disch := omega) only [w32_of, w64_of, w8_of, decide_eq_true_eq, decide_eq_false_iff_not, Bool.not_eq_true] at c4
        exact wp_some trivial
      · try simp (disch := omega) only [w32_of, w64_of, w8_of, decide_eq_true_eq, decide_eq_false_iff_not, Bool.not_eq_true] at c4
        refine wp_bd (s_T_has (σ := σ) (first_0 := 1) (second_0 := 0) hσ (by (try dsimp only) <;> first | assumption | omega | ((try simp (disch := omega) only [w32_of, w64_of, w8_of]) <;> first | assumption | omega | (split <;> omega) | (refine And.intro ?_ ?_ <;> split <;> omega)) | omega) (by (try dsimp only) <;> first | assumption | omega | ((try simp (disch := omega) only [w32_of, w64_of, w8_of]) <;> first | assumption | omega | (split <;> omega) | (refine And.intro ?_ ?_ <;> split <;> omega)) | omega)) ?_
        rintro x_10 - -
        refine wp_if (fun c6 => ?_) (fun c6 => ?_)
        · try simp (disch := omega) only [w32_of, w64_of, w8_of, decide_eq_true_eq, decide_eq_false_iff_not, Bool.not_eq_true] at c6
          exact wp_some trivial
        · try simp (disch := omega) only [w32_of, w64_of, w8_of, decide_eq_true_eq, decide_eq_false_iff_not, Bool.not_eq_true] at c6
          refine wp_bd (s_T_has (σ := σ) (first_0 := 1) (second_0 := 1) hσ (by (try dsimp only) <;> first | assumption | omega | ((try simp (disch := omega) only [w32_of, w64_of, w8_of]) <;> first | assumption | omega | (split <;> omega) | (refine And.intro ?_ ?_ <;> split <;> omega)) | omega) (by (try dsimp only) <;> first | assumption | omega | ((try simp (disch := omega) only [w32_of, w64_of, w8_of]) <;> first | assumption | omega | (split <;> omega) | (refine And.intro ?_ ?_ <;> split <;> omega)) | omega)) ?_
          rintro x_14 - -
          refine wp_if (fun c8 => ?_) (fun c8 => ?_)
          · try simp (disch := omega) only [w32_of, w64_of, w8_of, decide_eq_true_eq, decide_eq_false_iff_not, Bool.not_eq_true] at c8
            exact wp_some trivial
          · try simp (disch := omega) only [w32_of, w64_of, w8_of, decide_eq_true_eq, decide_eq_false_iff_not, Bool.not_eq_true] at c8
            exact wp_some trivial
  rintro x_18 _ -
  exact wp_some trivial
theorem s_T_isFirstOutside {σ : SG} (hσ : II σ) : wp_ (fT_isFirstOutside σ) (fun zz_ => True) := by
  unfold fT_isFirstOutside
  refine wp_bd (P := fun rr_ => True) ?_ ?_
  · refine wp_bd (s_T_has (σ := σ) (first_0 := 0) (second_0 := 2) hσ (by (try dsimp only) <;> first | assumption | omega | ((try simp (disch := omega) only [w32_of, w64_of, w8_of]) <;> first | assumption | omega | (split <;> omega) | (refine And.intro ?_ ?_ <;> split <;> omega)) | omega) (by (try dsimp only) <;> first | assumption | omega | ((try simp (disch := omega) only [w32_of, w64_of, w8_of]) <;> first | assumption | omega | (split <;> omega) | (refine And.intro ?_ ?_ <;> split <;> omega)) | omega)) ?_
    rintro x_2 - -
    refine wp_if (fun c2 => ?_) (fun c2 => ?_)
    · try simp (disch := omega) only [w32_of, w64_of, w8_of, decide_eq_true_eq, decide_eq_false_iff_not, Bool.not_eq_true] at c2
      exact wp_some trivial
    · try simp (disch := omega) only [w32_of, w64_of, w8_of, decide_eq_true_eq, decide_eq_false_iff_not, Bool.not_eq_true] at c2
      refine wp_bd (s_T_has (σ := σ) (first_0 := 1) (second_0 := 2) hσ (by (try dsimp only) <;> first | assumption | omega | ((try simp (disch := omega) only [w32_of, w64_of, w8_of]) <;> first | assumption | omega | (split <;> omega) | (refine And.intro ?_ ?_ <;> split <;> omega)) | omega) (by (try dsimp only) <;> first | assumption | omega | ((try simp (disch := omega) only [w32_of, w64_of, w8_of]) <;> first | assumption | omega | (split <;> omega) | (refine And.intro ?_ ?_ <;> split <;> omega)) | omega)) ?_
      rintro x_6 - -
      refine wp_if (fun c4 => ?_) (fun c4 => ?_)
      · try simp (disch := omega) only [w32_of, w64_of, w8_of, decide_eq_true_eq, decide_eq_false_iff_not, Bool.not_eq_true] at c4
        exact wp_some trivial
      · try simp (disch := omega) only [w32_of, w64_of, w8_of, decide_eq_true_eq, decide_eq_false_iff_not, Bool.not_eq_true] at c4
        exact wp_some trivial
  rintro x_10 _ -
  exact wp_some trivial
theorem s_T_isSecondOutside {σ : SG} (hσ : II σ) : wp_ (fT_isSecondOutside σ) (fun zz_ => True) := by
  unfold fT_isSecondOutside
  refine wp_bd (P := fun rr_ => True) ?_ ?_
  · refine wp_bd (s_T_has (σ := σ) (first_0 := 2) (second_0 := 0) hσ (by (try dsimp only) <;> first | assumption | omega | ((try simp (disch := omega) only [w32_of, w64_of, w8_of]) <;> first | assumption | omega | (split <;> omega) | (refine And.intro ?_ ?_ <;> split <;> omega)) | omega) (by (try dsimp only) <;> first | assumption | omega | ((try simp (disch := omega) only [w32_of, w64_of, w8_of]) <;> first | assumption | omega | (split <;> omega) | (refine And.intro ?_ ?_ <;> split <;> omega)) | omega)) ?_
    rintro x_2 - -
    refine wp_if (fun c2 => ?_) (fun c2 => ?_)
    · try simp (disch := omega) only [w32_of, w64_of, w8_of, decide_eq_true_eq, decide_eq_false_iff_not, Bool.not_eq_true] at c2
      exact wp_some trivial
    · try simp (disch := omega) only [w32_of, w64_of, w8_of, decide_eq_true_eq, decide_eq_false_iff_not, Bool.not_eq_true] at c2
      refine wp_bd (s_T_has (σ := σ) (first_0 := 2) (second_0 := 1) hσ (by (try dsimp only) <;> first | assumption | omega | ((try simp (disch := omega) only [w32_of, w64_of, w8_of]) <;> first | assumption | omega | (split <;> omega) | (refine And.intro ?_ ?_ <;> split <;> omega)) | omega) (by (try dsimp only) <;> first | assumption | omega | ((try simp (disch := omega) only [w32_of, w64_of, w8_of]) <;> first | assumption | omega | (split <;> omega) | (refine And.intro ?_ ?_ <;> split <;> omega)) | omega)) ?_
      rintro x_6 - -
      refine wp_if (fun c4 => ?_) (fun c4 => ?_)
      · try simp (disch := omega) only [w32_of, w64_of, w8_of, decide_eq_true_eq, decide_eq_false_iff_not, Bool.not_eq_true] at c4
        exact wp_some trivial
      · try simp (disch := omega) only [w32_of, w64_of, w8_of, decide_eq_true_eq, decide_eq_false_iff_not, Bool.not_eq_true] at c4
        exact wp_some trivial
  rintro x_10 _ -
  exact wp_some trivial
theorem s_T_lieAcross {σ : SG} {first_0 : Int} {second_0 : Int} (hσ : II σ) : wp_ (fT_lieAcross σ first_0 second_0) (fun zz_ => True) := by
  unfold fT_lieAcross
  have c2 := w32_rng first_0
  have c3 := w32_rng second_0
  refine wp_if (fun c1 => ?_) (fun c1 => ?_)
  · try simp (disch := omega) only [w32_of, w64_of, w8_of, decide_eq_true_eq, decide_eq_false_iff_not, Bool.not_eq_true] at c1
    refine wp_bd (P := fun rr_ => True) ?_ ?_
    · refine wp_bd (s_T_has (σ := σ) (first_0 := 0) (second_0 := 0) hσ (by (try dsimp only) <;> first | assumption | omega | ((try simp (disch := omega) only [w32_of, w64_of, w8_of]) <;> first | assumption | omega | (split <;> omega) | (refine And.intro ?_ ?_ <;> split <;> omega)) | omega) (by (try dsimp only) <;> first | assumption | omega | ((try simp (disch := omega) only [w32_of, w64_of, w8_of]) <;> first | assumption | omega | (split <;> omega) | (refine And.intro ?_ ?_ <;> split <;> omega)) | omega)) ?_
      rintro x_3 - -
      refine wp_if (fun c5 => ?_) (fun c5 => ?_)
      · try simp (disch := omega) only [w32_of, w64_of, w8_of, decide_eq_true_eq, decide_eq_false_iff_not, Bool.not_eq_true] at c5
        refine wp_bd (s_T_has (σ := σ) (first_0 := 0) (second_0 := 2) hσ (by (try dsimp only) <;> first | assumption | omega | ((try simp (disch := omega) only [w32_of, w64_of, w8_of]) <;> first | assumption | omega | (split <;> omega) | (refine And.intro ?_ ?_ <;> split <;> omega)) | omega) (by (try dsimp only) <;> first | assumption | omega | ((try simp (disch := omega) only [w32_of, w64_of, w8_of]) <;> first | assumption | omega | (split <;> omega) | (refine And.intro ?_ ?_ <;> split <;> omega)) | omega)) ?_
        rintro x_6 - -
        refine wp_if (fun c7 => ?_) (fun c7 => ?_)
        · try simp (disch := omega) only [w32_of, w64_of, w8_of, decide_eq_true_eq, decide_eq_false_iff_not, Bool.not_eq_true] at c7
          exact wp_some trivial
        · try simp (disch := omega) only [w32_of, w64_of, w8_of, decide_eq_true_eq, decide_eq_false_iff_not, Bool.not_eq_true] at c7
          exact wp_some trivial
      · try simp (disch := omega) only [w32_of, w64_of, w8_of, decide_eq_true_eq, decide_eq_false_iff_not, Bool.not_eq_true] at c5
        exact wp_some trivial
    rintro x_11 _ -
    exact wp_some trivial
  · try simp (disch := omega) only [w32_of, w64_of, w8_of, decide_eq_true_eq, decide_eq_false_iff_not, Bool.not_eq_true] at c1
    refine wp_if (fun c8 => ?_) (fun c8 => ?_)
    · try simp (disch := omega) only [w32_of, w64_of, w8_of, decide_eq_true_eq, decide_eq_false_iff_not, Bool.not_eq_true] at c8
      refine wp_bd (P := fun rr_ => True) ?_ ?_
      · refine wp_bd (s_T_has (σ := σ) (first_0 := 0) (second_0 := 0) hσ (by (try dsimp only) <;> first | assumption | omega | ((try simp (disch := omega) only [w32_of, w64_of, w8_of]) <;> first | assumption | omega | (split <;> omega) | (refine And.intro ?_ ?_ <;> split <;> omega)) | omega) (by (try dsimp only) <;> first | assumption | omega | ((try simp (disch := omega) only [w32_of, w64_of, w8_of]) <;> first | assumption | omega | (split <;> omega) | (refine And.intro ?_ ?_ <;> split <;> omega)) | omega)) ?_
        rintro x_18 - -
        refine wp_if (fun c10 => ?_) (fun c10 => ?_)
        · try simp (disch := omega) only [w32_of, w64_of, w8_of, decide_eq_true_eq, decide_eq_false_iff_not, Bool.not_eq_true] at c10
          refine wp_bd (s_T_has (σ := σ) (first_0 := 2) (second_0 := 0) hσ (by (try dsimp only) <;> first | assumption | omega | ((try simp (disch := omega) only [w32_of, w64_of, w8_of]) <;> first | assumption | omega | (split <;> omega) | (refine And.intro ?_ ?_ <;> split <;> omega)) | omega) (by (try dsimp only) <;> first | assumption | omega | ((try simp (disch := omega) only [w32_of, w64_of, w8_of]) <;> first | assumption | omega | (split <;> omega) | (refine And.intro ?_ ?_ <;> split <;> omega)) | omega)) ?_
          rintro x_21 - -
          refine wp_if (fun c12 => ?_) (fun c12 => ?_)
          · try simp (disch := omega) only [w32_of, w64_of, w8_of, decide_eq_true_eq, decide_eq_false_iff_not, Bool.not_eq_true] at c12
            exact wp_some trivial
          · try simp (disch := omega) only [w32_of, w64_of, w8_of, decide_eq_true_eq, decide_eq_false_iff_not, Bool.not_eq_true] at c12
            exact wp_some trivial
        · try simp (disch := omega) only [w32_of, w64_of, w8_of, decide_eq_true_eq, decide_eq_false_iff_not, Bool.not_eq_true] at c10
          exact wp_some trivial
      rintro x_26 _ -
      exact wp_some trivial
    · try simp (disch := omega) only [w32_of, w64_of, w8_of, decide_eq_true_eq, decide_eq_false_iff_not, Bool.not_eq_true] at c8
      refine wp_bd (P := fun rr_ => True) ?_ ?_
      · refine wp_if (fun c13 => ?_) (fun c13 => ?_)
        · try simp (disch := omega) only [w32_of, w64_of, w8_of, decide_eq_true_eq, decide_eq_false_iff_not, Bool.not_eq_true] at c13
          refine wp_rdI (by (try dsimp only) <;> first | assumption | omega | ((try simp (disch := omega) only [w32_of, w64_of, w8_of]) <;> first | assumption | omega | (split <;> omega) | (refine And.intro ?_ ?_ <;> split <;> omega)) | omega) (by (try dsimp only) <;> first | assumption | omega | ((try simp (disch := omega) only [w32_of, w64_of, w8_of]) <;> first | assumption | omega | (split <;> omega) | (refine And.intro ?_ ?_ <;> split <;> omega)) | omega) (fun x_32 e_x_32 => ?_)
          have b_x_32 : (-1) ≤ x_32 ∧ x_32 ≤ 2 := by rw [e_x_32]; exact ii_kT_matrix hσ _
          try simp (disch := omega) only [w32_of, w64_of, w8_of] at e_x_32
          have c14 := ii_kT_matrix hσ 0
          have c16 := w32_rng x_32
          refine wp_if (fun c15 => ?_) (fun c15 => ?_)
          · try simp (disch := omega) only [w32_of, w64_of, w8_of, decide_eq_true_eq, decide_eq_false_iff_not, Bool.not_eq_true] at c15
            exact wp_some trivial
          · try simp (disch := omega) only [w32_of, w64_of, w8_of, decide_eq_true_eq, decide_eq_false_iff_not, Bool.not_eq_true] at c15
            exact wp_some trivial
        · try simp (disch := omega) only [w32_of, w64_of, w8_of, decide_eq_true_eq, decide_eq_false_iff_not, Bool.not_eq_true] at c13
          exact wp_some trivial
      rintro x_38 _ -
      exact wp_some trivial
theorem s_T_lieSo {σ : SG} {what_0 : Int} (hσ : II σ) : wp_ (fT_lieSo σ what_0) (fun zz_ => True) := by
  unfold fT_lieSo
  refine wp_rdI (by (try dsimp only) <;> first | assumption | omega | ((try simp (disch := omega) only [w32_of, w64_of, w8_of]) <;> first | assumption | omega | (split <;> omega) | (refine And.intro ?_ ?_ <;> split <;> omega)) | omega) (by (try dsimp only) <;> first | assumption | omega | ((try simp (disch := omega) only [w32_of, w64_of, w8_of]) <;> first | assumption | omega | (split <;> omega) | (refine And.intro ?_ ?_ <;> split <;> omega)) | omega) (fun x_1 e_x_1 => ?_)
  have b_x_1 : (-1) ≤ x_1 ∧ x_1 ≤ 2 := by rw [e_x_1]; exact ii_kT_matrix hσ _
  try simp (disch := omega) only [w32_of, w64_of, w8_of] at e_x_1
  have c1 := ii_kT_matrix hσ 0
  refine wp_rdI (by (try dsimp only) <;> first | assumption | omega | ((try simp (disch := omega) only [w32_of, w64_of, w8_of]) <;> first | assumption | omega | (split <;> omega) | (refine And.intro ?_ ?_ <;> split <;> omega)) | omega) (by (try dsimp only) <;> first | assumption | omega | ((try simp (disch := omega) only [w32_of, w64_of, w8_of]) <;> first | assumption | omega | (split <;> omega) | (refine And.intro ?_ ?_ <;> split <;> omega)) | omega) (fun x_3 e_x_3 => ?_)
  have b_x_3 : (-1) ≤ x_3 ∧ x_3 ≤ 2 := by rw [e_x_3]; exact ii_kT_matrix hσ _
  try simp (disch := omega) only [w32_of, w64_of, w8_of] at e_x_3
  have c2 := ii_kT_matrix hσ 1
  refine wp_rdI (by (try dsimp only) <;> first | assumption | omega | ((try simp (disch := omega) only [w32_of, w64_of, w8_of]) <;> first | assumption | omega | (split <;> omega) | (refine And.intro ?_ ?_ <;> split <;> omega)) | omega) (by (try dsimp only) <;> first | assumption | omega | ((try simp (disch := omega) only [w32_of, w64_of, w8_of]) <;> first | assumption | omega | (split <;> omega) | (refine And.intro ?_ ?_ <;> split <;> omega)) | omega) (fun x_5 e_x_5 => ?_)
  have b_x_5 : (-1) ≤ x_5 ∧ x_5 ≤ 2 := by rw [e_x_5]; exact ii_kT_matrix hσ _
  try simp (disch := omega) only [w32_of, w64_of, w8_of] at e_x_5
  have c3 := ii_kT_matrix hσ 2
  refine wp_rdI (by (try dsimp only) <;> first | assumption | omega | ((try simp (disch := omega) only [w32_of, w64_of, w8_of]) <;> first | assumption | omega | (split <;> omega) | (refine And.intro ?_ ?_ <;> split <;> omega)) | omega) (by (try dsimp only) <;> first | assumption | omega | ((try simp (disch := omega) only [w32_of, w64_of, w8_of]) <;> first | assumption | omega | (split <;> omega) | (refine And.intro ?_ ?_ <;> split <;> omega)) | omega) (fun x_7 e_x_7 => ?_)
  have b_x_7 : (-1) ≤ x_7 ∧ x_7 ≤ 2 := by rw [e_x_7]; exact ii_kT_matrix hσ _
  try simp (disch := omega) only [w32_of, w64_of, w8_of] at e_x_7
  refine wp_rdI (by (try dsimp only) <;> first | assumption | omega | ((try simp (disch := omega) only [w32_of, w64_of, w8_of]) <;> first | assumption | omega | (split <;> omega) | (refine And.intro ?_ ?_ <;> split <;> omega)) | omega) (by (try dsimp only) <;> first | assumption | omega | ((try simp (disch := omega) only [w32_of, w64_of, w8_of]) <;> first | assumption | omega | (split <;> omega) | (refine And.intro ?_ ?_ <;> split <;> omega)) | omega) (fun x_9 e_x_9 => ?_)
  have b_x_9 : (-1) ≤ x_9 ∧ x_9 ≤ 2 := by rw [e_x_9]; exact ii_kT_matrix hσ _
  try simp (disch := omega) only [w32_of, w64_of, w8_of] at e_x_9
  have c4 := ii_kT_matrix hσ 3
  refine wp_rdI (by (try dsimp only) <;> first | assumption | omega | ((try simp (disch := omega) only [w32_of, w64_of, w8_of]) <;> first | assumption | omega | (split <;> omega) | (refine And.intro ?_ ?_ <;> split <;> omega)) | omega) (by (try dsimp only) <;> first | assumption | omega | ((try simp (disch := omega) only [w32_of, w64_of, w8_of]) <;> first | assumption | omega | (split <;> omega) | (refine And.intro ?_ ?_ <;> split <;> omega)) | omega) (fun x_11 e_x_11 => ?_)
  have b_x_11 : (-1) ≤ x_11 ∧ x_11 ≤ 2 := by rw [e_x_11]; exact ii_kT_matrix hσ _
  try simp (disch := omega) only [w32_of, w64_of, w8_of] at e_x_11
  have c5 := ii_kT_matrix hσ 6
  have c7 := w32_rng what_0
  refine wp_if (fun c6 => ?_) (fun c6 => ?_)
  · try simp (disch := omega) only [w32_of, w64_of, w8_of, decide_eq_true_eq, decide_eq_false_iff_not, Bool.not_eq_true] at c6
    refine wp_bd (P := fun rr_ => True) ?_ ?_
    · have c9 := q_mxi_bd x_3 x_5
      try simp (disch := omega) only [w32_of, w64_of, w8_of] at c9
      have c10 := q_mxi_bd x_1 (q_mxi x_3 x_5)
      try simp (disch := omega) only [w32_of, w64_of, w8_of] at c10
      have c11 := w32_rng (q_mxi x_1 (q_mxi x_3 x_5))
      refine wp_if (fun c8 => ?_) (fun c8 => ?_)
      · try simp (disch := omega) only [w32_of, w64_of, w8_of, decide_eq_true_eq, decide_eq_false_iff_not, Bool.not_eq_true] at c8
        have c13 := q_mxi_bd x_9 x_11
        try simp (disch := omega) only [w32_of, w64_of, w8_of] at c13
        have c14 := q_mxi_bd x_7 (q_mxi x_9 x_11)
        try simp (disch := omega) only [w32_of, w64_of, w8_of] at c14
        have c15 := w32_rng (q_mxi x_7 (q_mxi x_9 x_11))
        refine wp_if (fun c12 => ?_) (fun c12 => ?_)
        · try simp (disch := omega) only [w32_of, w64_of, w8_of, decide_eq_true_eq, decide_eq_false_iff_not, Bool.not_eq_true] at c12
          exact wp_some trivial
        · try simp (disch := omega) only [w32_of, w64_of, w8_of, decide_eq_true_eq, decide_eq_false_iff_not, Bool.not_eq_true] at c12
          refine wp_bd (s_T_has (σ := σ) (first_0 := 0) (second_0 := 0) hσ (by (try dsimp only) <;> first | assumption | omega | ((try simp (disch := omega) only [w32_of, w64_of, w8_of]) <;> first | assumption | omega | (split <;> omega) | (refine And.intro ?_ ?_ <;> split <;> omega)) | omega) (by (try dsimp only) <;> first | assumption | omega | ((try simp (disch := omega) only [w32_of, w64_of, w8_of]) <;> first | assumption | omega | (split <;> omega) | (refine And.intro ?_ ?_ <;> split <;> omega)) | omega)) ?_
          rintro x_18 - -
          refine wp_if (fun c17 => ?_) (fun c17 => ?_)
          · try simp (disch := omega) only [w32_of, w64_of, w8_of, decide_eq_true_eq, decide_eq_false_iff_not, Bool.not_eq_true] at c17
            refine wp_bd (s_T_isFirstOutside (σ := σ) hσ) ?_
            rintro x_21 - -
            refine wp_if (fun c19 => ?_) (fun c19 => ?_)
            · try simp (disch := omega) only [w32_of, w64_of, w8_of, decide_eq_true_eq, decide_eq_false_iff_not, Bool.not_eq_true] at c19
              exact wp_some trivial
            · try simp (disch := omega) only [w32_of, w64_of, w8_of, decide_eq_true_eq, decide_eq_false_iff_not, Bool.not_eq_true] at c19
              refine wp_bd (s_T_isSecondOutside (σ := σ) hσ) ?_
              rintro x_25 - -
              refine wp_if (fun c21 => ?_) (fun c21 => ?_)
              · try simp (disch := omega) only [w32_of, w64_of, w8_of, decide_eq_true_eq, decide_eq_false_iff_not, Bool.not_eq_true] at c21
                exact wp_some trivial
              · try simp (disch := omega) only [w32_of, w64_of, w8_of, decide_eq_true_eq, decide_eq_false_iff_not, Bool.not_eq_true] at c21
                exact wp_some trivial
          · try simp (disch := omega) only [w32_of, w64_of, w8_of, decide_eq_true_eq, decide_eq_false_iff_not, Bool.not_eq_true] at c17
            exact wp_some trivial
      · try simp (disch := omega) only [w32_of, w64_of, w8_of, decide_eq_true_eq, decide_eq_false_iff_not, Bool.not_eq_true] at c8
        refine wp_bd (s_T_has (σ := σ) (first_0 := 0) (second_0 := 0) hσ (by (try dsimp only) <;> first | assumption | omega | ((try simp (disch := omega) only [w32_of, w64_of, w8_of]) <;> first | assumption | omega | (split <;> omega) | (refine And.intro ?_ ?_ <;> split <;> omega)) | omega) (by (try dsimp only) <;> first | assumption | omega | ((try simp (disch := omega) only [w32_of, w64_of, w8_of]) <;> first | assumption | omega | (split <;> omega) | (refine And.intro ?_ ?_ <;> split <;> omega)) | omega)) ?_
        rintro x_31 - -
        refine wp_if (fun c23 => ?_) (fun c23 => ?_)
        · try simp (disch := omega) only [w32_of, w64_of, w8_of, decide_eq_true_eq, decide_eq_false_iff_not, Bool.not_eq_true] at c23
          refine wp_bd (s_T_isFirstOutside (σ := σ) hσ) ?_
          rintro x_34 - -
          refine wp_if (fun c25 => ?_) (fun c25 => ?_)
          · try simp (disch := omega) only [w32_of, w64_of, w8_of, decide_eq_true_eq, decide_eq_false_iff_not, Bool.not_eq_true] at c25
            exact wp_some trivial
          · try simp (disch := omega) only [w32_of, w64_of, w8_of, decide_eq_true_eq, decide_eq_false_iff_not, Bool.not_eq_true] at c25
            refine wp_bd (s_T_isSecondOutside (σ := σ) hσ) ?_
            rintro x_38 - -
            refine wp_if (fun c27 => ?_) (fun c27 => ?_)
            · try simp (disch := omega) only [w32_of, w64_of, w8_of, decide_eq_true_eq, decide_eq_false_iff_not, Bool.not_eq_true] at c27
              exact wp_some trivial
            · try simp (disch := omega) only [w32_of, w64_of, w8_of, decide_eq_true_eq, decide_eq_false_iff_not, Bool.not_eq_true] at c27
              exact wp_some trivial
        · try simp (disch := omega) only [w32_of, w64_of, w8_of, decide_eq_true_eq, decide_eq_false_iff_not, Bool.not_eq_true] at c23
          exact wp_some trivial
    rintro x_43 _ -
    exact wp_some trivial
  · try simp (disch := omega) only [w32_of, w64_of, w8_of, decide_eq_true_eq, decide_eq_false_iff_not, Bool.not_eq_true] at c6
    refine wp_if (fun c28 => ?_) (fun c28 => ?_)
    · try simp (disch := omega) only [w32_of, w64_of, w8_of, decide_eq_true_eq, decide_eq_false_iff_not, Bool.not_eq_true] at c28
      refine wp_bd (P := fun rr_ => True) ?_ ?_
      · refine wp_bd (s_T_haveCommonPlace (σ := σ) hσ) ?_
        rintro x_50 - -
        refine wp_if (fun c30 => ?_) (fun c30 => ?_)
        · try simp (disch := omega) only [w32_of, w64_of, w8_of, decide_eq_true_eq, decide_eq_false_iff_not, Bool.not_eq_true] at c30
          exact wp_some trivial
        · try simp (disch := omega) only [w32_of, w64_of, w8_of, decide_eq_true_eq, decide_eq_false_iff_not, Bool.not_eq_true] at c30
          exact wp_some trivial
      rintro x_54 _ -
      exact wp_some trivial
    · try simp (disch := omega) only [w32_of, w64_of, w8_of, decide_eq_true_eq, decide_eq_false_iff_not, Bool.not_eq_true] at c28
      refine wp_if (fun c31 => ?_) (fun c31 => ?_)
      · try simp (disch := omega) only [w32_of, w64_of, w8_of, decide_eq_true_eq, decide_eq_false_iff_not, Bool.not_eq_true] at c31
        refine wp_bd (P := fun rr_ => True) ?_ ?_
        · refine wp_bd (s_T_has (σ := σ) (first_0 := 0) (second_0 := 0) hσ (by (try dsimp only) <;> first | assumption | omega | ((try simp (disch := omega) only [w32_of, w64_of, w8_of]) <;> first | assumption | omega | (split <;> omega) | (refine And.intro ?_ ?_ <;> split <;> omega)) | omega) (by (try dsimp only) <;> first | assumption | omega | ((try simp (disch := omega) only [w32_of, w64_of, w8_of]) <;> first | assumption | omega | (split <;> omega) | (refine And.intro ?_ ?_ <;> split <;> omega)) | omega)) ?_
          rintro x_61 - -
          refine wp_if (fun c33 => ?_) (fun c33 => ?_)
          · try simp (disch := omega) only [w32_of, w64_of, w8_of, decide_eq_true_eq, decide_eq_false_iff_not, Bool.not_eq_true] at c33
            exact wp_some trivial
          · try simp (disch := omega) only [w32_of, w64_of, w8_of, decide_eq_true_eq, decide_eq_false_iff_not, Bool.not_eq_true] at c33
            refine wp_bd (s_T_haveCommonPlace (σ := σ) hσ) ?_
            rintro x_65 - -
            refine wp_if (fun c35 => ?_) (fun c35 => ?_)
            · try simp (disch := omega) only [w32_of, w64_of, w8_of, decide_eq_true_eq, decide_eq_false_iff_not, Bool.not_eq_true] at c35
              exact wp_some trivial
            · try simp (disch := omega) only [w32_of, w64_of, w8_of, decide_eq_true_eq, decide_eq_false_iff_not, Bool.not_eq_true] at c35
              exact wp_some trivial
        rintro x_69 _ -
        exact wp_some trivial
      · try simp (disch := omega) only [w32_of, w64_of, w8_of, decide_eq_true_eq, decide_eq_false_iff_not, Bool.not_eq_true] at c31
        refine wp_if (fun c36 => ?_) (fun c36 => ?_)
        · try simp (disch := omega) only [w32_of, w64_of, w8_of, decide_eq_true_eq, decide_eq_false_iff_not, Bool.not_eq_true] at c36
          have c37 := q_mxi_bd x_3 x_5
          try simp (disch := omega) only [w32_of, w64_of, w8_of] at c37
          have c38 := q_mxi_bd x_1 (q_mxi x_3 x_5)
          try simp (disch := omega) only [w32_of, w64_of, w8_of] at c38
          have c39 := q_mxi_bd x_9 x_11
          try simp (disch := omega) only [w32_of, w64_of, w8_of] at c39
          have c40 := q_mxi_bd x_7 (q_mxi x_9 x_11)
          try simp (disch := omega) only [w32_of, w64_of, w8_of] at c40
          refine wp_bd (s_T_lieAcross (σ := σ) (first_0 := (q_mxi x_1 (q_mxi x_3 x_5))) (second_0 := (q_mxi x_7 (q_mxi x_9 x_11))) hσ) ?_
          rintro x_76 - -
          exact wp_some trivial
        · try simp (disch := omega) only [w32_of, w64_of, w8_of, decide_eq_true_eq, decide_eq_false_iff_not, Bool.not_eq_true] at c36
          refine wp_if (fun c42 => ?_) (fun c42 => ?_)
          · try simp (disch := omega) only [w32_of, w64_of, w8_of, decide_eq_true_eq, decide_eq_false_iff_not, Bool.not_eq_true] at c42
            refine wp_bd (P := fun rr_ => True) ?_ ?_
            · refine wp_bd (s_T_has (σ := σ) (first_0 := 0) (second_0 := 0) hσ (by (try dsimp only) <;> first | assumption | omega | ((try simp (disch := omega) only [w32_of, w64_of, w8_of]) <;> first | assumption | omega | (split <;> omega) | (refine And.intro ?_ ?_ <;> split <;> omega)) | omega) (by (try dsimp only) <;> first | assumption | omega | ((try simp (disch := omega) only [w32_of, w64_of, w8_of]) <;> first | assumption | omega | (split <;> omega) | (refine And.intro ?_ ?_ <;> split <;> omega)) | omega)) ?_
              rintro x_79 - -
              refine wp_if (fun c44 => ?_) (fun c44 => ?_)
              · try simp (disch := omega) only [w32_of, w64_of, w8_of, decide_eq_true_eq, decide_eq_false_iff_not, Bool.not_eq_true] at c44
                refine wp_bd (s_T_isFirstOutside (σ := σ) hσ) ?_
                rintro x_82 - -
                refine wp_if (fun c46 => ?_) (fun c46 => ?_)
                · try simp (disch := omega) only [w32_of, w64_of, w8_of, decide_eq_true_eq, decide_eq_false_iff_not, Bool.not_eq_true] at c46
                  exact wp_some trivial
                · try simp (disch := omega) only [w32_of, w64_of, w8_of, decide_eq_true_eq, decide_eq_false_iff_not, Bool.not_eq_true] at c46
                  exact wp_some trivial
              · try simp (disch := omega) only [w32_of, w64_of, w8_of, decide_eq_true_eq, decide_eq_false_iff_not, Bool.not_eq_true] at c44
                exact wp_some trivial
            rintro x_87 _ -
            exact wp_some trivial
          · try simp (disch := omega) only [w32_of, w64_of, w8_of, decide_eq_true_eq, decide_eq_false_iff_not, Bool.not_eq_true] at c42
            refine wp_if (fun c47 => ?_) (fun c47 => ?_)
            · try simp (disch := omega) only [w32_of, w64_of, w8_of, decide_eq_true_eq, decide_eq_false_iff_not, Bool.not_eq_true] at c47
              refine wp_bd (P := fun rr_ => True) ?_ ?_
              · refine wp_bd (s_T_has (σ := σ) (first_0 := 0) (second_0 := 0) hσ (by (try dsimp only) <;> first | assumption | omega | ((try simp (disch := omega) only [w32_of, w64_of, w8_of]) <;> first | assumption | omega | (split <;> omega) | (refine And.intro ?_ ?_ <;> split <;> omega)) | omega) (by (try dsimp only) <;> first | assumption | omega | ((try simp (disch := omega) only [w32_of, w64_of, w8_of]) <;> first | assumption | omega | (split <;> omega) | (refine And.intro ?_ ?_ <;> split <;> omega)) | omega)) ?_
                rintro x_94 - -
                refine wp_if (fun c49 => ?_) (fun c49 => ?_)
                · try simp (disch := omega) only [w32_of, w64_of, w8_of, decide_eq_true_eq, decide_eq_false_iff_not, Bool.not_eq_true] at c49
                  refine wp_bd (s_T_isSecondOutside (σ := σ) hσ) ?_
                  rintro x_97 - -
                  refine wp_if (fun c51 => ?_) (fun c51 => ?_)
                  · try simp (disch := omega) only [w32_of, w64_of, w8_of, decide_eq_true_eq, decide_eq_false_iff_not, Bool.not_eq_true] at c51
                    exact wp_some trivial
                  · try simp (disch := omega) only [w32_of, w64_of, w8_of, decide_eq_true_eq, decide_eq_false_iff_not, Bool.not_eq_true] at c51
                    exact wp_some trivial
                · try simp (disch := omega) only [w32_of, w64_of, w8_of, decide_eq_true_eq, decide_eq_false_iff_not, Bool.not_eq_true] at c49
                  exact wp_some trivial
              rintro x_102 _ -
              exact wp_some trivial
            · try simp (disch := omega) only [w32_of, w64_of, w8_of, decide_eq_true_eq, decide_eq_false_iff_not, Bool.not_eq_true] at c47
              refine wp_if (fun c52 => ?_) (fun c52 => ?_)
              · try simp (disch := omega) only [w32_of, w64_of, w8_of, decide_eq_true_eq, decide_eq_false_iff_not, Bool.not_eq_true] at c52
                refine wp_bd (P := fun rr_ => True) ?_ ?_
                · have c54 := q_mxi_bd x_3 x_5
                  try simp (disch := omega) only [w32_of, w64_of, w8_of] at c54
                  have c55 := q_mxi_bd x_1 (q_mxi x_3 x_5)
                  try simp (disch := omega) only [w32_of, w64_of, w8_of] at c55
                  have c56 := w32_rng (q_mxi x_1 (q_mxi x_3 x_5))
                  have c57 := q_mxi_bd x_9 x_11
                  try simp (disch := omega) only [w32_of, w64_of, w8_of] at c57
                  have c58 := q_mxi_bd x_7 (q_mxi x_9 x_11)
                  try simp (disch := omega) only [w32_of, w64_of, w8_of] at c58
                  have c59 := w32_rng (q_mxi x_7 (q_mxi x_9 x_11))
                  refine wp_if (fun c53 => ?_) (fun c53 => ?_)
                  · try simp (disch := omega) only [w32_of, w64_of, w8_of, decide_eq_true_eq, decide_eq_false_iff_not, Bool.not_eq_true] at c53
                    refine wp_if (fun c60 => ?_) (fun c60 => ?_)
                    · try simp (disch := omega) only [w32_of, w64_of, w8_of, decide_eq_true_eq, decide_eq_false_iff_not, Bool.not_eq_true] at c60
                      refine wp_rdI (by (try dsimp only) <;> first | assumption | omega | ((try simp (disch := omega) only [w32_of, w64_of, w8_of]) <;> first | assumption | omega | (split <;> omega) | (refine And.intro ?_ ?_ <;> split <;> omega)) | omega) (by (try dsimp only) <;> first | assumption | omega | ((try simp (disch := omega) only [w32_of, w64_of, w8_of]) <;> first | assumption | omega | (split <;> omega) | (refine And.intro ?_ ?_ <;> split <;> omega)) | omega) (fun x_110 e_x_110 => ?_)
                      have b_x_110 : (-1) ≤ x_110 ∧ x_110 ≤ 2 := by rw [e_x_110]; exact ii_kT_matrix hσ _
                      try simp (disch := omega) only [w32_of, w64_of, w8_of] at e_x_110
                      have c62 := w32_rng x_110
                      refine wp_if (fun c61 => ?_) (fun c61 => ?_)
                      · try simp (disch := omega) only [w32_of, w64_of, w8_of, decide_eq_true_eq, decide_eq_false_iff_not, Bool.not_eq_true] at c61
                        refine wp_bd (s_T_has (σ := σ) (first_0 := 0) (second_0 := 2) hσ (by (try dsimp only) <;> first | assumption | omega | ((try simp (disch := omega) only [w32_of, w64_of, w8_of]) <;> first | assumption | omega | (split <;> omega) | (refine And.intro ?_ ?_ <;> split <;> omega)) | omega) (by (try dsimp only) <;> first | assumption | omega | ((try simp (disch := omega) only [w32_of, w64_of, w8_of]) <;> first | assumption | omega | (split <;> omega) | (refine And.intro ?_ ?_ <;> split <;> omega)) | omega)) ?_
                        rintro x_114 - -
                        refine wp_if (fun c64 => ?_) (fun c64 => ?_)
                        · try simp (disch := omega) only [w32_of, w64_of, w8_of, decide_eq_true_eq, decide_eq_false_iff_not, Bool.not_eq_true] at c64
                          refine wp_bd (s_T_has (σ := σ) (first_0 := 2) (second_0 := 0) hσ (by (try dsimp only) <;> first | assumption | omega | ((try simp (disch := omega) only [w32_of, w64_of, w8_of]) <;> first | assumption | omega | (split <;> omega) | (refine And.intro ?_ ?_ <;> split <;> omega)) | omega) (by (try dsimp only) <;> first | assumption | omega | ((try simp (disch := omega) only [w32_of, w64_of, w8_of]) <;> first | assumption | omega | (split <;> omega) | (refine And.intro ?_ ?_ <;> split <;> omega)) | omega)) ?_
                          rintro x_117 - -
                          refine wp_if (fun c66 => ?_) (fun c66 => ?_)
                          · try simp (disch := omega) only [w32_of, w64_of, w8_of, decide_eq_true_eq, decide_eq_false_iff_not, Bool.not_eq_true] at c66
                            exact wp_some trivial
                          · try simp (disch := omega) only [w32_of, w64_of, w8_of, decide_eq_true_eq, decide_eq_false_iff_not, Bool.not_eq_true] at c66
                            exact wp_some trivial
                        · try simp (disch := omega) only [w32_of, w64_of, w8_of, decide_eq_true_eq, decide_eq_false_iff_not, Bool.not_eq_true] at c64
                          exact wp_some trivial
                      · try simp (disch := omega) only [w32_of, w64_of, w8_of, decide_eq_true_eq, decide_eq_false_iff_not, Bool.not_eq_true] at c61
                        exact wp_some trivial
                    · try simp (disch := omega) only [w32_of, w64_of, w8_of, decide_eq_true_eq, decide_eq_false_iff_not, Bool.not_eq_true] at c60
                      exact wp_some trivial
                  · try simp (disch := omega) only [w32_of, w64_of, w8_of, decide_eq_true_eq, decide_eq_false_iff_not, Bool.not_eq_true] at c53
                    exact wp_some trivial
                rintro x_125 _ -
                exact wp_some trivial
              · try simp (disch := omega) only [w32_of, w64_of, w8_of, decide_eq_true_eq, decide_eq_false_iff_not, Bool.not_eq_true] at c52
                refine wp_if (fun c67 => ?_) (fun c67 => ?_)
                · try simp (disch := omega) only [w32_of, w64_of, w8_of, decide_eq_true_eq, decide_eq_false_iff_not, Bool.not_eq_true] at c67
                  refine wp_bd (P := fun rr_ => True) ?_ ?_
                  · refine wp_bd (s_T_haveCommonPlace (σ := σ) hσ) ?_
                    rintro x_132 - -
                    refine wp_if (fun c69 => ?_) (fun c69 => ?_)
                    · try simp (disch := omega) only [w32_of, w64_of, w8_of, decide_eq_true_eq, decide_eq_false_iff_not, Bool.not_eq_true] at c69
                      refine wp_bd (s_T_isFirstOutside (σ := σ) hσ) ?_
                      rintro x_135 - -
                      refine wp_if (fun c71 => ?_) (fun c71 => ?_)
                      · try simp (disch := omega) only [w32_of, w64_of, w8_of, decide_eq_true_eq, decide_eq_false_iff_not, Bool.not_eq_true] at c71
                        exact wp_some trivial
                      · try simp (disch := omega) only [w32_of, w64_of, w8_of, decide_eq_true_eq, decide_eq_false_iff_not, Bool.not_eq_true] at c71
                        exact wp_some trivial
                    · try simp (disch := omega) only [w32_of, w64_of, w8_of, decide_eq_true_eq, decide_eq_false_iff_not, Bool.not_eq_true] at c69
                      exact wp_some trivial
                  rintro x_140 _ -
                  exact wp_some trivial
                · try simp (disch := omega) only [w32_of, w64_of, w8_of, decide_eq_true_eq, decide_eq_false_iff_not, Bool.not_eq_true] at c67
                  refine wp_bd (P := fun rr_ => True) ?_ ?_
                  · refine wp_bd (s_T_haveCommonPlace (σ := σ) hσ) ?_
                    rintro x_146 - -
                    refine wp_if (fun c73 => ?_) (fun c73 => ?_)
                    · try simp (disch := omega) only [w32_of, w64_of, w8_of, decide_eq_true_eq, decide_eq_false_iff_not, Bool.not_eq_true] at c73
                      refine wp_bd (s_T_isSecondOutside (σ := σ) hσ) ?_
                      rintro x_149 - -
                      refine wp_if (fun c75 => ?_) (fun c75 => ?_)
                      · try simp (disch := omega) only [w32_of, w64_of, w8_of, decide_eq_true_eq, decide_eq_false_iff_not, Bool.not_eq_true] at c75
                        exact wp_some trivial
                      · try simp (disch := omega) only [w32_of, w64_of, w8_of, decide_eq_true_eq, decide_eq_false_iff_not, Bool.not_eq_true] at c75
                        exact wp_some trivial
                    · try simp (disch := omega) only [w32_of, w64_of, w8_of, decide_eq_true_eq, decide_eq_false_iff_not, Bool.not_eq_true] at c73
                      exact wp_some trivial
                  rintro x_154 _ -
                  exact wp_some trivial
theorem s_T_addEdge {σ : SG} {one_0 : Nat} {two_0 : Nat} {i_0 : Int} {cut_0 : Int} (hσ : II σ) (hs_one_0 : isS one_0) (hs_two_0 : isS two_0) (w0 : 0 ≤ i_0 ∧ i_0 ≤ 255) (w1 : 0 ≤ cut_0 ∧ cut_0 ≤ 511) (w2 : σ (kE_size 223) 0 ≤ 256) : wp_ (fT_addEdge σ one_0 two_0 i_0 cut_0) (fun zz_ => II zz_ ∧ FC [kT_covers, kT_crossed, kT_matrix] [] σ zz_) := by
  unfold fT_addEdge
  have c1 := iiE_size (s := 223) hσ (by decide) 0
  refine wp_bd (v_fillI (σ := σ) (a_0 := 236) (a_n := 2) (val_0 := 0) hσ (by decide) (by first | (rw [show (236 * 256 : Nat) = kT_covers from rfl, b_kT_covers]; trivial) | (rw [show (237 * 256 : Nat) = kT_crossed from rfl, b_kT_crossed]; trivial)) (by decide)) ?_
  rintro σ_2 - ⟨hσ_2, flσ_2, g2⟩
  have frσ_2 : FC [kT_covers, kT_crossed, kT_matrix] [] σ σ_2 := FC_le flσ_2 (by first | decide | (rcases hE with rfl | rfl | rfl <;> decide)) (by simp)
  try simp (disch := omega) only [w32_of, w64_of, w8_of] at g2
  refine wp_bd (v_fillI (σ := σ_2) (a_0 := 237) (a_n := 2) (val_0 := 0) hσ_2 (by decide) (by first | (rw [show (236 * 256 : Nat) = kT_covers from rfl, b_kT_covers]; trivial) | (rw [show (237 * 256 : Nat) = kT_crossed from rfl, b_kT_crossed]; trivial)) (by decide)) ?_
  rintro σ_4 - ⟨hσ_4, flσ_4, g3⟩
  have frσ_4 : FC [kT_covers, kT_crossed, kT_matrix] [] σ σ_4 := FC_tr frσ_2 flσ_4 (by first | decide | (rcases hE with rfl | rfl | rfl <;> decide)) (by first | decide | (rcases hE with rfl | rfl | rfl <;> decide)) (by simp) (by simp)
  try simp (disch := omega) only [w32_of, w64_of, w8_of] at g3
  refine wp_bd (P := fun rr_ => II rr_.2 ∧ FC [kT_covers, kT_crossed, kT_matrix] [] σ rr_.2 ∧ (True)) ?_ ?_
  · refine wp_whl (fun ss_ => II ss_.2 ∧ FC [kT_covers, kT_crossed, kT_matrix] [] σ ss_.2 ∧ (0 ≤ ss_.1 ∧ ss_.1 ≤ 256)) (fun ss_ => (257 - ss_.1).toNat) ⟨hσ_4, frσ_4, (by (try dsimp only) <;> first | assumption | omega | ((try simp (disch := omega) only [w32_of, w64_of, w8_of]) <;> first | assumption | omega | (split <;> omega) | (refine And.intro ?_ ?_ <;> split <;> omega)) | omega)⟩ ?_
    rintro ⟨k_5, σ_6⟩ y5
    try dsimp only at y5 ⊢
    obtain ⟨hσ_6, frσ_6, g4⟩ := y5
    have c7 := w32_rng k_5
    have c8 := iiE_size (s := 223) hσ_6 (by decide) 0
    have c9 := FC_at frσ_6 (c := (kE_size 223)) (by first | decide | (rcases hE with rfl | rfl | rfl <;> decide)) 0
    have c10 := w32_rng (σ_6 (kE_size 223) 0)
    refine wp_if (fun c6 => ?_) (fun c6 => ?_)
    · try simp (disch := omega) only [w32_of, w64_of, w8_of, decide_eq_true_eq, decide_eq_false_iff_not, Bool.not_eq_true] at c6
      refine wp_bd (P := fun rr_ => II rr_ ∧ FC [kT_covers, kT_crossed, kT_matrix] [] σ rr_) ?_ ?_
      · have c11 : ((gsz 223 : Nat) : Int) = 256 := by decide
        refine wp_bd (s_E_lowY (σ := σ_6) (this_0 := 223) (i_0 := k_5) hσ_6 (by decide) (by (try dsimp only) <;> first | assumption | omega | ((try simp (disch := omega) only [w32_of, w64_of, w8_of]) <;> first | assumption | omega | (split <;> omega) | (refine And.intro ?_ ?_ <;> split <;> omega)) | omega)) ?_
        rintro x_40 - g12
        try simp (disch := omega) only [w32_of, w64_of, w8_of] at g12
        have c13 : ((gsz 223 : Nat) : Int) = 256 := by decide
        refine wp_bd (s_E_highY (σ := σ_6) (this_0 := 223) (i_0 := i_0) hσ_6 (by decide) (by (try dsimp only) <;> first | assumption | omega | ((try simp (disch := omega) only [w32_of, w64_of, w8_of]) <;> first | assumption | omega | (split <;> omega) | (refine And.intro ?_ ?_ <;> split <;> omega)) | omega)) ?_
        rintro x_42 - g14
        try simp (disch := omega) only [w32_of, w64_of, w8_of] at g14
        have c16 := w32_rng x_40
        have c17 := w32_rng x_42
        refine wp_if (fun c15 => ?_) (fun c15 => ?_)
        · try simp (disch := omega) only [w32_of, w64_of, w8_of, decide_eq_true_eq, decide_eq_false_iff_not, Bool.not_eq_true] at c15
          have c18 : ((gsz 223 : Nat) : Int) = 256 := by decide
          refine wp_bd (s_E_highY (σ := σ_6) (this_0 := 223) (i_0 := k_5) hσ_6 (by decide) (by (try dsimp only) <;> first | assumption | omega | ((try simp (disch := omega) only [w32_of, w64_of, w8_of]) <;> first | assumption | omega | (split <;> omega) | (refine And.intro ?_ ?_ <;> split <;> omega)) | omega)) ?_
          rintro x_45 - g19
          try simp (disch := omega) only [w32_of, w64_of, w8_of] at g19
          have c20 : ((gsz 223 : Nat) : Int) = 256 := by decide
          refine wp_bd (s_E_lowY (σ := σ_6) (this_0 := 223) (i_0 := i_0) hσ_6 (by decide) (by (try dsimp only) <;> first | assumption | omega | ((try simp (disch := omega) only [w32_of, w64_of, w8_of]) <;> first | assumption | omega | (split <;> omega) | (refine And.intro ?_ ?_ <;> split <;> omega)) | omega)) ?_
          rintro x_47 - g21
          try simp (disch := omega) only [w32_of, w64_of, w8_of] at g21
          have c23 := w32_rng x_47
          have c24 := w32_rng x_45
          refine wp_if (fun c22 => ?_) (fun c22 => ?_)
          · try simp (disch := omega) only [w32_of, w64_of, w8_of, decide_eq_true_eq, decide_eq_false_iff_not, Bool.not_eq_true] at c22
            have c25 : ((gsz 223 : Nat) : Int) = 256 := by decide
            refine wp_bd (s_E_highX (σ := σ_6) (this_0 := 223) (i_0 := k_5) hσ_6 (by decide) (by (try dsimp only) <;> first | assumption | omega | ((try simp (disch := omega) only [w32_of, w64_of, w8_of]) <;> first | assumption | omega | (split <;> omega) | (refine And.intro ?_ ?_ <;> split <;> omega)) | omega)) ?_
            rintro x_50 - g26
            try simp (disch := omega) only [w32_of, w64_of, w8_of] at g26
            have c27 : ((gsz 223 : Nat) : Int) = 256 := by decide
            refine wp_bd (s_E_lowX (σ := σ_6) (this_0 := 223) (i_0 := i_0) hσ_6 (by decide) (by (try dsimp only) <;> first | assumption | omega | ((try simp (disch := omega) only [w32_of, w64_of, w8_of]) <;> first | assumption | omega | (split <;> omega) | (refine And.intro ?_ ?_ <;> split <;> omega)) | omega)) ?_
            rintro x_52 - g28
            try simp (disch := omega) only [w32_of, w64_of, w8_of] at g28
            have c30 := w32_rng x_52
            have c31 := w32_rng x_50
            refine wp_if (fun c29 => ?_) (fun c29 => ?_)
            · try simp (disch := omega) only [w32_of, w64_of, w8_of, decide_eq_true_eq, decide_eq_false_iff_not, Bool.not_eq_true] at c29
              have c32 := w32_rng cut_0
              refine wp_rdI (by (try dsimp only) <;> first | assumption | omega | ((try simp (disch := omega) only [w32_of, w64_of, w8_of]) <;> first | assumption | omega | (split <;> omega) | (refine And.intro ?_ ?_ <;> split <;> omega)) | omega) (by (try dsimp only) <;> first | assumption | omega | ((try simp (disch := omega) only [w32_of, w64_of, w8_of]) <;> first | assumption | omega | (split <;> omega) | (refine And.intro ?_ ?_ <;> split <;> omega)) | omega) (fun x_54 e_x_54 => ?_)
              rw [FC_at frσ_6 (c := kT_share) (by first | decide | (rcases hE with rfl | rfl | rfl <;> decide))] at e_x_54
              try simp (disch := omega) only [w32_of, w64_of, w8_of] at e_x_54
              have c33 := FC_at frσ_6 (c := kT_share) (by first | decide | (rcases hE with rfl | rfl | rfl <;> decide)) cut_0
              refine wp_rdI (by (try dsimp only) <;> first | assumption | omega | ((try simp (disch := omega) only [w32_of, w64_of, w8_of]) <;> first | assumption | omega | (split <;> omega) | (refine And.intro ?_ ?_ <;> split <;> omega)) | omega) (by (try dsimp only) <;> first | assumption | omega | ((try simp (disch := omega) only [w32_of, w64_of, w8_of]) <;> first | assumption | omega | (split <;> omega) | (refine And.intro ?_ ?_ <;> split <;> omega)) | omega) (fun x_56 e_x_56 => ?_)
              rw [FC_at frσ_6 (c := kT_whole) (by first | decide | (rcases hE with rfl | rfl | rfl <;> decide))] at e_x_56
              try simp (disch := omega) only [w32_of, w64_of, w8_of] at e_x_56
              have c34 := FC_at frσ_6 (c := kT_whole) (by first | decide | (rcases hE with rfl | rfl | rfl <;> decide)) cut_0
              refine wp_bd (s_T_countSegment (σ := σ_6) (i_0 := i_0) (itsShare_0 := x_54) (itsWhole_0 := x_56) (k_0 := k_5) hσ_6 (by (try dsimp only) <;> first | assumption | omega | ((try simp (disch := omega) only [w32_of, w64_of, w8_of]) <;> first | assumption | omega | (split <;> omega) | (refine And.intro ?_ ?_ <;> split <;> omega)) | omega) (by (try dsimp only) <;> first | assumption | omega | ((try simp (disch := omega) only [w32_of, w64_of, w8_of]) <;> first | assumption | omega | (split <;> omega) | (refine And.intro ?_ ?_ <;> split <;> omega)) | omega)) ?_
              rintro σ_59 - ⟨hσ_59, flσ_59⟩
              have frσ_59 : FC [kT_covers, kT_crossed, kT_matrix] [] σ σ_59 := FC_tr frσ_6 flσ_59 (by first | decide | (rcases hE with rfl | rfl | rfl <;> decide)) (by first | decide | (rcases hE with rfl | rfl | rfl <;> decide)) (by simp) (by simp)
              exact wp_some ⟨hσ_59, frσ_59⟩
            · try simp (disch := omega) only [w32_of, w64_of, w8_of, decide_eq_true_eq, decide_eq_false_iff_not, Bool.not_eq_true] at c29
              exact wp_some ⟨hσ_6, frσ_6⟩
          · try simp (disch := omega) only [w32_of, w64_of, w8_of, decide_eq_true_eq, decide_eq_false_iff_not, Bool.not_eq_true] at c22
            exact wp_some ⟨hσ_6, frσ_6⟩
        · try simp (disch := omega) only [w32_of, w64_of, w8_of, decide_eq_true_eq, decide_eq_false_iff_not, Bool.not_eq_true] at c15
          exact wp_some ⟨hσ_6, frσ_6⟩
      rintro σ_64 _ ⟨hσ_64, frσ_64⟩
      exact wp_some (x_inl ⟨⟨hσ_64, frσ_64, (by (try dsimp only) <;> first | assumption | omega | ((try simp (disch := omega) only [w32_of, w64_of, w8_of]) <;> first | assumption | omega | (split <;> omega) | (refine And.intro ?_ ?_ <;> split <;> omega)) | omega)⟩, (by (try dsimp only) <;> first | assumption | omega | ((try simp (disch := omega) only [w32_of, w64_of, w8_of]) <;> first | assumption | omega | (split <;> omega) | (refine And.intro ?_ ?_ <;> split <;> omega)) | omega)⟩)
    · try simp (disch := omega) only [w32_of, w64_of, w8_of, decide_eq_true_eq, decide_eq_false_iff_not, Bool.not_eq_true] at c6
      exact wp_some (x_inr ⟨hσ_6, frσ_6, (by (try dsimp only) <;> first | assumption | omega | ((try simp (disch := omega) only [w32_of, w64_of, w8_of]) <;> first | assumption | omega | (split <;> omega) | (refine And.intro ?_ ?_ <;> split <;> omega)) | omega)⟩)
  rintro ⟨k_68, σ_69⟩ _ y36
  try dsimp only at y36 ⊢
  obtain ⟨hσ_69, frσ_69, g35⟩ := y36
  refine wp_rdI (by (try dsimp only) <;> first | assumption | omega | ((try simp (disch := omega) only [w32_of, w64_of, w8_of]) <;> first | assumption | omega | (split <;> omega) | (refine And.intro ?_ ?_ <;> split <;> omega)) | omega) (by (try dsimp only) <;> first | assumption | omega | ((try simp (disch := omega) only [w32_of, w64_of, w8_of]) <;> first | assumption | omega | (split <;> omega) | (refine And.intro ?_ ?_ <;> split <;> omega)) | omega) (fun x_70 e_x_70 => ?_)
  try simp (disch := omega) only [w32_of, w64_of, w8_of] at e_x_70
  refine wp_bd (s_T_faceOf (σ := σ_69) (shape_0 := one_0) (crossed_0 := x_70) hσ_69 (by first | assumption | decide | omega)) ?_
  rintro x_73 - g37
  try simp (disch := omega) only [w32_of, w64_of, w8_of] at g37
  refine wp_rdI (by (try dsimp only) <;> first | assumption | omega | ((try simp (disch := omega) only [w32_of, w64_of, w8_of]) <;> first | assumption | omega | (split <;> omega) | (refine And.intro ?_ ?_ <;> split <;> omega)) | omega) (by (try dsimp only) <;> first | assumption | omega | ((try simp (disch := omega) only [w32_of, w64_of, w8_of]) <;> first | assumption | omega | (split <;> omega) | (refine And.intro ?_ ?_ <;> split <;> omega)) | omega) (fun x_74 e_x_74 => ?_)
  try simp (disch := omega) only [w32_of, w64_of, w8_of] at e_x_74
  refine wp_bd (s_T_faceOf (σ := σ_69) (shape_0 := two_0) (crossed_0 := x_74) hσ_69 (by first | assumption | decide | omega)) ?_
  rintro x_77 - g38
  try simp (disch := omega) only [w32_of, w64_of, w8_of] at g38
  refine wp_bd (s_T_raise (σ := σ_69) (first_0 := x_73) (second_0 := x_77) (dimension_0 := 2) hσ_69 (by (try dsimp only) <;> first | assumption | omega | ((try simp (disch := omega) only [w32_of, w64_of, w8_of]) <;> first | assumption | omega | (split <;> omega) | (refine And.intro ?_ ?_ <;> split <;> omega)) | omega) (by (try dsimp only) <;> first | assumption | omega | ((try simp (disch := omega) only [w32_of, w64_of, w8_of]) <;> first | assumption | omega | (split <;> omega) | (refine And.intro ?_ ?_ <;> split <;> omega)) | omega) (by (try dsimp only) <;> first | assumption | omega | ((try simp (disch := omega) only [w32_of, w64_of, w8_of]) <;> first | assumption | omega | (split <;> omega) | (refine And.intro ?_ ?_ <;> split <;> omega)) | omega)) ?_
  rintro σ_79 - ⟨hσ_79, flσ_79⟩
  have frσ_79 : FC [kT_covers, kT_crossed, kT_matrix] [] σ σ_79 := FC_tr frσ_69 flσ_79 (by first | decide | (rcases hE with rfl | rfl | rfl <;> decide)) (by first | decide | (rcases hE with rfl | rfl | rfl <;> decide)) (by simp) (by simp)
  refine wp_rdI (by (try dsimp only) <;> first | assumption | omega | ((try simp (disch := omega) only [w32_of, w64_of, w8_of]) <;> first | assumption | omega | (split <;> omega) | (refine And.intro ?_ ?_ <;> split <;> omega)) | omega) (by (try dsimp only) <;> first | assumption | omega | ((try simp (disch := omega) only [w32_of, w64_of, w8_of]) <;> first | assumption | omega | (split <;> omega) | (refine And.intro ?_ ?_ <;> split <;> omega)) | omega) (fun x_80 e_x_80 => ?_)
  try simp (disch := omega) only [w32_of, w64_of, w8_of] at e_x_80
  have c39 := FC_at flσ_79 (c := kT_crossed) (by first | decide | (rcases hE with rfl | rfl | rfl <;> decide)) 0
  refine wp_rdI (by (try dsimp only) <;> first | assumption | omega | ((try simp (disch := omega) only [w32_of, w64_of, w8_of]) <;> first | assumption | omega | (split <;> omega) | (refine And.intro ?_ ?_ <;> split <;> omega)) | omega) (by (try dsimp only) <;> first | assumption | omega | ((try simp (disch := omega) only [w32_of, w64_of, w8_of]) <;> first | assumption | omega | (split <;> omega) | (refine And.intro ?_ ?_ <;> split <;> omega)) | omega) (fun x_82 e_x_82 => ?_)
  try simp (disch := omega) only [w32_of, w64_of, w8_of] at e_x_82
  have c40 := FC_at flσ_79 (c := kT_covers) (by first | decide | (rcases hE with rfl | rfl | rfl <;> decide)) 0
  refine wp_bd (s_T_faceOf (σ := σ_79) (shape_0 := one_0) (crossed_0 := (x_80 + x_82)) hσ_79 (by first | assumption | decide | omega)) ?_
  rintro x_85 - g41
  try simp (disch := omega) only [w32_of, w64_of, w8_of] at g41
  refine wp_rdI (by (try dsimp only) <;> first | assumption | omega | ((try simp (disch := omega) only [w32_of, w64_of, w8_of]) <;> first | assumption | omega | (split <;> omega) | (refine And.intro ?_ ?_ <;> split <;> omega)) | omega) (by (try dsimp only) <;> first | assumption | omega | ((try simp (disch := omega) only [w32_of, w64_of, w8_of]) <;> first | assumption | omega | (split <;> omega) | (refine And.intro ?_ ?_ <;> split <;> omega)) | omega) (fun x_86 e_x_86 => ?_)
  try simp (disch := omega) only [w32_of, w64_of, w8_of] at e_x_86
  have c42 := FC_at flσ_79 (c := kT_crossed) (by first | decide | (rcases hE with rfl | rfl | rfl <;> decide)) 1
  refine wp_rdI (by (try dsimp only) <;> first | assumption | omega | ((try simp (disch := omega) only [w32_of, w64_of, w8_of]) <;> first | assumption | omega | (split <;> omega) | (refine And.intro ?_ ?_ <;> split <;> omega)) | omega) (by (try dsimp only) <;> first | assumption | omega | ((try simp (disch := omega) only [w32_of, w64_of, w8_of]) <;> first | assumption | omega | (split <;> omega) | (refine And.intro ?_ ?_ <;> split <;> omega)) | omega) (fun x_88 e_x_88 => ?_)
  try simp (disch := omega) only [w32_of, w64_of, w8_of] at e_x_88
  have c43 := FC_at flσ_79 (c := kT_covers) (by first | decide | (rcases hE with rfl | rfl | rfl <;> decide)) 1
  refine wp_bd (s_T_faceOf (σ := σ_79) (shape_0 := two_0) (crossed_0 := (x_86 + x_88)) hσ_79 (by first | assumption | decide | omega)) ?_
  rintro x_91 - g44
  try simp (disch := omega) only [w32_of, w64_of, w8_of] at g44
  refine wp_bd (s_T_raise (σ := σ_79) (first_0 := x_85) (second_0 := x_91) (dimension_0 := 2) hσ_79 (by (try dsimp only) <;> first | assumption | omega | ((try simp (disch := omega) only [w32_of, w64_of, w8_of]) <;> first | assumption | omega | (split <;> omega) | (refine And.intro ?_ ?_ <;> split <;> omega)) | omega) (by (try dsimp only) <;> first | assumption | omega | ((try simp (disch := omega) only [w32_of, w64_of, w8_of]) <;> first | assumption | omega | (split <;> omega) | (refine And.intro ?_ ?_ <;> split <;> omega)) | omega) (by (try dsimp only) <;> first | assumption | omega | ((try simp (disch := omega) only [w32_of, w64_of, w8_of]) <;> first | assumption | omega | (split <;> omega) | (refine And.intro ?_ ?_ <;> split <;> omega)) | omega)) ?_
  rintro σ_93 - ⟨hσ_93, flσ_93⟩
  have frσ_93 : FC [kT_covers, kT_crossed, kT_matrix] [] σ σ_93 := FC_tr frσ_79 flσ_93 (by first | decide | (rcases hE with rfl | rfl | rfl <;> decide)) (by first | decide | (rcases hE with rfl | rfl | rfl <;> decide)) (by simp) (by simp)
  refine wp_bd (s_T_edgeOf (σ := σ_93) (shape_0 := one_0) (owner_0 := 0) hσ_93 (by first | assumption | decide | omega) (by (try dsimp only) <;> first | assumption | omega | ((try simp (disch := omega) only [w32_of, w64_of, w8_of]) <;> first | assumption | omega | (split <;> omega) | (refine And.intro ?_ ?_ <;> split <;> omega)) | omega)) ?_
  rintro x_95 - g45
  try simp (disch := omega) only [w32_of, w64_of, w8_of] at g45
  refine wp_bd (s_T_edgeOf (σ := σ_93) (shape_0 := two_0) (owner_0 := 1) hσ_93 (by first | assumption | decide | omega) (by (try dsimp only) <;> first | assumption | omega | ((try simp (disch := omega) only [w32_of, w64_of, w8_of]) <;> first | assumption | omega | (split <;> omega) | (refine And.intro ?_ ?_ <;> split <;> omega)) | omega)) ?_
  rintro x_97 - g46
  try simp (disch := omega) only [w32_of, w64_of, w8_of] at g46
  refine wp_bd (s_T_raise (σ := σ_93) (first_0 := x_95) (second_0 := x_97) (dimension_0 := 1) hσ_93 (by (try dsimp only) <;> first | assumption | omega | ((try simp (disch := omega) only [w32_of, w64_of, w8_of]) <;> first | assumption | omega | (split <;> omega) | (refine And.intro ?_ ?_ <;> split <;> omega)) | omega) (by (try dsimp only) <;> first | assumption | omega | ((try simp (disch := omega) only [w32_of, w64_of, w8_of]) <;> first | assumption | omega | (split <;> omega) | (refine And.intro ?_ ?_ <;> split <;> omega)) | omega) (by (try dsimp only) <;> first | assumption | omega | ((try simp (disch := omega) only [w32_of, w64_of, w8_of]) <;> first | assumption | omega | (split <;> omega) | (refine And.intro ?_ ?_ <;> split <;> omega)) | omega)) ?_
  rintro σ_99 - ⟨hσ_99, flσ_99⟩
  have frσ_99 : FC [kT_covers, kT_crossed, kT_matrix] [] σ σ_99 := FC_tr frσ_93 flσ_99 (by first | decide | (rcases hE with rfl | rfl | rfl <;> decide)) (by first | decide | (rcases hE with rfl | rfl | rfl <;> decide)) (by simp) (by simp)
  exact wp_some ⟨hσ_99, frσ_99⟩
theorem s_T_addCut {σ : SG} {itsShare_0 : Int} {itsWhole_0 : Int} (hσ : II σ) : wp_ (fT_addCut σ itsShare_0 itsWhole_0) (fun zz_ => II zz_ ∧ FC [kT_cuts, kT_share, kT_whole] [] σ zz_) := by
  unfold fT_addCut
  have c2 := w64_rng itsWhole_0
  have c3 := w64_rng itsShare_0
  have c4 := ii_kT_cuts hσ 0
  have c5 := w32_rng (σ kT_cuts 0)
  refine wp_if (fun c1 => ?_) (fun c1 => ?_)
  · try simp (disch := omega) only [w32_of, w64_of, w8_of, decide_eq_true_eq, decide_eq_false_iff_not, Bool.not_eq_true] at c1
    exact wp_some ⟨hσ, (FC_refl _ _ _)⟩
  · try simp (disch := omega) only [w32_of, w64_of, w8_of, decide_eq_true_eq, decide_eq_false_iff_not, Bool.not_eq_true] at c1
    refine wp_bd (P := fun rr_ => II rr_.2 ∧ FC [kT_cuts, kT_share, kT_whole] [] σ rr_.2 ∧ (0 ≤ rr_.1 ∧ rr_.1 ≤ 511) ∧ (rr_.2 kT_cuts 0 = σ kT_cuts 0)) ?_ ?_
    · refine wp_whl (fun ss_ => II ss_.2 ∧ FC [kT_cuts, kT_share, kT_whole] [] σ ss_.2 ∧ (0 ≤ ss_.1 ∧ ss_.1 ≤ 511) ∧ (ss_.2 kT_cuts 0 = σ kT_cuts 0)) (fun ss_ => ss_.1.toNat) ⟨hσ, (FC_refl _ _ _), (by (try dsimp only) <;> first | assumption | omega | ((try simp (disch := omega) only [w32_of, w64_of, w8_of]) <;> first | assumption | omega | (split <;> omega) | (refine And.intro ?_ ?_ <;> split <;> omega)) | omega), (by (try dsimp only) <;> first | assumption | omega | ((try simp (disch := omega) only [w32_of, w64_of, w8_of]) <;> first | assumption | omega | (split <;> omega) | (refine And.intro ?_ ?_ <;> split <;> omega)) | omega)⟩ ?_
      rintro ⟨at_1, σ_2⟩ y8
      try dsimp only at y8 ⊢
      obtain ⟨hσ_2, frσ_2, g6, g7⟩ := y8
      have c10 := w32_rng at_1
      refine wp_if (fun c9 => ?_) (fun c9 => ?_)
      · try simp (disch := omega) only [w32_of, w64_of, w8_of, decide_eq_true_eq, decide_eq_false_iff_not, Bool.not_eq_true] at c9
        have c11 := w32_rng (at_1 - 1)
        refine wp_rdI (by (try dsimp only) <;> first | assumption | omega | ((try simp (disch := omega) only [w32_of, w64_of, w8_of]) <;> first | assumption | omega | (split <;> omega) | (refine And.intro ?_ ?_ <;> split <;> omega)) | omega) (by (try dsimp only) <;> first | assumption | omega | ((try simp (disch := omega) only [w32_of, w64_of, w8_of]) <;> first | assumption | omega | (split <;> omega) | (refine And.intro ?_ ?_ <;> split <;> omega)) | omega) (fun x_21 e_x_21 => ?_)
        try simp (disch := omega) only [w32_of, w64_of, w8_of] at e_x_21
        refine wp_rdI (by (try dsimp only) <;> first | assumption | omega | ((try simp (disch := omega) only [w32_of, w64_of, w8_of]) <;> first | assumption | omega | (split <;> omega) | (refine And.intro ?_ ?_ <;> split <;> omega)) | omega) (by (try dsimp only) <;> first | assumption | omega | ((try simp (disch := omega) only [w32_of, w64_of, w8_of]) <;> first | assumption | omega | (split <;> omega) | (refine And.intro ?_ ?_ <;> split <;> omega)) | omega) (fun x_23 e_x_23 => ?_)
        try simp (disch := omega) only [w32_of, w64_of, w8_of] at e_x_23
        have c13 := p_Q_signOfSum (a_0 := x_21) (b_0 := itsWhole_0) (c_0 := (-itsShare_0)) (d_0 := x_23) (e_0 := 0) (f_0 := 0)
        have c14 := w32_rng (fQ_signOfSum x_21 itsWhole_0 (-itsShare_0) x_23 0 0)
        refine wp_if (fun c12 => ?_) (fun c12 => ?_)
        · try simp (disch := omega) only [w32_of, w64_of, w8_of, decide_eq_true_eq, decide_eq_false_iff_not, Bool.not_eq_true] at c12
          refine wp_rdI (by (try dsimp only) <;> first | assumption | omega | ((try simp (disch := omega) only [w32_of, w64_of, w8_of]) <;> first | assumption | omega | (split <;> omega) | (refine And.intro ?_ ?_ <;> split <;> omega)) | omega) (by (try dsimp only) <;> first | assumption | omega | ((try simp (disch := omega) only [w32_of, w64_of, w8_of]) <;> first | assumption | omega | (split <;> omega) | (refine And.intro ?_ ?_ <;> split <;> omega)) | omega) (fun x_26 e_x_26 => ?_)
          try simp (disch := omega) only [w32_of, w64_of, w8_of] at e_x_26
          refine wp_waN hσ_2 b_kT_share (by (try dsimp only) <;> first | assumption | omega | ((try simp (disch := omega) only [w32_of, w64_of, w8_of]) <;> first | assumption | omega | (split <;> omega) | (refine And.intro ?_ ?_ <;> split <;> omega)) | omega) (by (try dsimp only) <;> first | assumption | omega | ((try simp (disch := omega) only [w32_of, w64_of, w8_of]) <;> first | assumption | omega | (split <;> omega) | (refine And.intro ?_ ?_ <;> split <;> omega)) | omega) (fun σ_28 hσ_28 eσ_28 => ?_)
          try simp (disch := omega) only [w32_of, w64_of, w8_of] at eσ_28
          have flσ_28 := FC_sg eσ_28 (by first | decide | (rcases hE with rfl | rfl | rfl <;> decide))
          have frσ_28 : FC [kT_cuts, kT_share, kT_whole] [] σ σ_28 := FC_tr frσ_2 flσ_28 (by first | decide | (rcases hE with rfl | rfl | rfl <;> decide)) (by first | decide | (rcases hE with rfl | rfl | rfl <;> decide)) (by simp) (by simp)
          refine wp_rdI (by (try dsimp only) <;> first | assumption | omega | ((try simp (disch := omega) only [w32_of, w64_of, w8_of]) <;> first | assumption | omega | (split <;> omega) | (refine And.intro ?_ ?_ <;> split <;> omega)) | omega) (by (try dsimp only) <;> first | assumption | omega | ((try simp (disch := omega) only [w32_of, w64_of, w8_of]) <;> first | assumption | omega | (split <;> omega) | (refine And.intro ?_ ?_ <;> split <;> omega)) | omega) (fun x_30 e_x_30 => ?_)
          try simp (disch := omega) only [w32_of, w64_of, w8_of] at e_x_30
          have c15 := FC_at flσ_28 (c := kT_whole) (by first | decide | (rcases hE with rfl | rfl | rfl <;> decide)) (at_1 - 1)
          refine wp_waN hσ_28 b_kT_whole (by (try dsimp only) <;> first | assumption | omega | ((try simp (disch := omega) only [w32_of, w64_of, w8_of]) <;> first | assumption | omega | (split <;> omega) | (refine And.intro ?_ ?_ <;> split <;> omega)) | omega) (by (try dsimp only) <;> first | assumption | omega | ((try simp (disch := omega) only [w32_of, w64_of, w8_of]) <;> first | assumption | omega | (split <;> omega) | (refine And.intro ?_ ?_ <;> split <;> omega)) | omega) (fun σ_32 hσ_32 eσ_32 => ?_)
          try simp (disch := omega) only [w32_of, w64_of, w8_of] at eσ_32
          have flσ_32 := FC_sg eσ_32 (by first | decide | (rcases hE with rfl | rfl | rfl <;> decide))
          have frσ_32 : FC [kT_cuts, kT_share, kT_whole] [] σ σ_32 := FC_tr frσ_28 flσ_32 (by first | decide | (rcases hE with rfl | rfl | rfl <;> decide)) (by first | decide | (rcases hE with rfl | rfl | rfl <;> decide)) (by simp) (by simp)
          have c16 := ii_kT_cuts hσ_32 0
          have c17 := FC_at flσ_32 (c := kT_cuts) (by first | decide | (rcases hE with rfl | rfl | rfl <;> decide)) 0
          have c18 := ii_kT_cuts hσ_28 0
          have c19 := FC_at flσ_28 (c := kT_cuts) (by first | decide | (rcases hE with rfl | rfl | rfl <;> decide)) 0
          have c20 := ii_kT_cuts hσ_2 0
          exact wp_some (x_inl ⟨⟨hσ_32, frσ_32, (by (try dsimp only) <;> first | assumption | omega | ((try simp (disch := omega) only [w32_of, w64_of, w8_of]) <;> first | assumption | omega | (split <;> omega) | (refine And.intro ?_ ?_ <;> split <;> omega)) | omega), (by (try dsimp only) <;> first | assumption | omega | ((try simp (disch := omega) only [w32_of, w64_of, w8_of]) <;> first | assumption | omega | (split <;> omega) | (refine And.intro ?_ ?_ <;> split <;> omega)) | omega)⟩, (by (try dsimp only) <;> first | assumption | omega | ((try simp (disch := omega) only [w32_of, w64_of, w8_of]) <;> first | assumption | omega | (split <;> omega) | (refine And.intro ?_ ?_ <;> split <;> omega)) | omega)⟩)
        · try simp (disch := omega) only [w32_of, w64_of, w8_of, decide_eq_true_eq, decide_eq_false_iff_not, Bool.not_eq_true] at c12
          have c21 := ii_kT_cuts hσ_2 0
          exact wp_some (x_inr ⟨hσ_2, frσ_2, (by (try dsimp only) <;> first | assumption | omega | ((try simp (disch := omega) only [w32_of, w64_of, w8_of]) <;> first | assumption | omega | (split <;> omega) | (refine And.intro ?_ ?_ <;> split <;> omega)) | omega), (by (try dsimp only) <;> first | assumption | omega | ((try simp (disch := omega) only [w32_of, w64_of, w8_of]) <;> first | assumption | omega | (split <;> omega) | (refine And.intro ?_ ?_ <;> split <;> omega)) | omega)⟩)
      · try simp (disch := omega) only [w32_of, w64_of, w8_of, decide_eq_true_eq, decide_eq_false_iff_not, Bool.not_eq_true] at c9
        have c22 := ii_kT_cuts hσ_2 0
        exact wp_some (x_inr ⟨hσ_2, frσ_2, (by (try dsimp only) <;> first | assumption | omega | ((try simp (disch := omega) only [w32_of, w64_of, w8_of]) <;> first | assumption | omega | (split <;> omega) | (refine And.intro ?_ ?_ <;> split <;> omega)) | omega), (by (try dsimp only) <;> first | assumption | omega | ((try simp (disch := omega) only [w32_of, w64_of, w8_of]) <;> first | assumption | omega | (split <;> omega) | (refine And.intro ?_ ?_ <;> split <;> omega)) | omega)⟩)
    rintro ⟨at_37, σ_38⟩ _ y25
    try dsimp only at y25 ⊢
    obtain ⟨hσ_38, frσ_38, g23, g24⟩ := y25
    have c26 := w32_rng at_37
    refine wp_waN hσ_38 b_kT_share (by (try dsimp only) <;> first | assumption | omega | ((try simp (disch := omega) only [w32_of, w64_of, w8_of]) <;> first | assumption | omega | (split <;> omega) | (refine And.intro ?_ ?_ <;> split <;> omega)) | omega) (by (try dsimp only) <;> first | assumption | omega | ((try simp (disch := omega) only [w32_of, w64_of, w8_of]) <;> first | assumption | omega | (split <;> omega) | (refine And.intro ?_ ?_ <;> split <;> omega)) | omega) (fun σ_39 hσ_39 eσ_39 => ?_)
    try simp (disch := omega) only [w32_of, w64_of, w8_of] at eσ_39
    have flσ_39 := FC_sg eσ_39 (by first | decide | (rcases hE with rfl | rfl | rfl <;> decide))
    have frσ_39 : FC [kT_cuts, kT_share, kT_whole] [] σ σ_39 := FC_tr frσ_38 flσ_39 (by first | decide | (rcases hE with rfl | rfl | rfl <;> decide)) (by first | decide | (rcases hE with rfl | rfl | rfl <;> decide)) (by simp) (by simp)
    refine wp_waN hσ_39 b_kT_whole (by (try dsimp only) <;> first | assumption | omega | ((try simp (disch := omega) only [w32_of, w64_of, w8_of]) <;> first | assumption | omega | (split <;> omega) | (refine And.intro ?_ ?_ <;> split <;> omega)) | omega) (by (try dsimp only) <;> first | assumption | omega | ((try simp (disch := omega) only [w32_of, w64_of, w8_of]) <;> first | assumption | omega | (split <;> omega) | (refine And.intro ?_ ?_ <;> split <;> omega)) | omega) (fun σ_41 hσ_41 eσ_41 => ?_)
    try simp (disch := omega) only [w32_of, w64_of, w8_of] at eσ_41
    have flσ_41 := FC_sg eσ_41 (by first | decide | (rcases hE with rfl | rfl | rfl <;> decide))
    have frσ_41 : FC [kT_cuts, kT_share, kT_whole] [] σ σ_41 := FC_tr frσ_39 flσ_41 (by first | decide | (rcases hE with rfl | rfl | rfl <;> decide)) (by first | decide | (rcases hE with rfl | rfl | rfl <;> decide)) (by simp) (by simp)
    have c27 := ii_kT_cuts hσ_41 0
    have c28 := FC_at flσ_41 (c := kT_cuts) (by first | decide | (rcases hE with rfl | rfl | rfl <;> decide)) 0
    have c29 := ii_kT_cuts hσ_39 0
    have c30 := FC_at flσ_39 (c := kT_cuts) (by first | decide | (rcases hE with rfl | rfl | rfl <;> decide)) 0
    have c31 := ii_kT_cuts hσ_38 0
    refine wp_wfI hσ_41 b_kT_cuts (by (try dsimp only) <;> first | assumption | omega | ((try simp (disch := omega) only [w32_of, w64_of, w8_of]) <;> first | assumption | omega | (split <;> omega) | (refine And.intro ?_ ?_ <;> split <;> omega)) | omega) (fun σ_43 hσ_43 eσ_43 => ?_)
    try simp (disch := omega) only [w32_of, w64_of, w8_of] at eσ_43
    have flσ_43 := FC_sg eσ_43 (by first | decide | (rcases hE with rfl | rfl | rfl <;> decide))
    have frσ_43 : FC [kT_cuts, kT_share, kT_whole] [] σ σ_43 := FC_tr frσ_41 flσ_43 (by first | decide | (rcases hE with rfl | rfl | rfl <;> decide)) (by first | decide | (rcases hE with rfl | rfl | rfl <;> decide)) (by simp) (by simp)
    exact wp_some ⟨hσ_43, frσ_43⟩
theorem s_T_cutAt {σ : SG} {i_0 : Int} {x_0 : Int} {y_0 : Int} (hσ : II σ) (w0 : 0 ≤ i_0 ∧ i_0 ≤ 255) : wp_ (fT_cutAt σ i_0 x_0 y_0) (fun zz_ => II zz_ ∧ FC [kT_cuts, kT_share, kT_whole] [] σ zz_) := by
  unfold fT_cutAt
  have c1 : ((gsz 223 : Nat) : Int) = 256 := by decide
  refine wp_bd (s_E_holds (σ := σ) (this_0 := 223) (i_0 := i_0) (x_0 := x_0) (y_0 := y_0) hσ (by decide) (by (try dsimp only) <;> first | assumption | omega | ((try simp (disch := omega) only [w32_of, w64_of, w8_of]) <;> first | assumption | omega | (split <;> omega) | (refine And.intro ?_ ?_ <;> split <;> omega)) | omega)) ?_
  rintro x_2 - -
  refine wp_if (fun c3 => ?_) (fun c3 => ?_)
  · try simp (disch := omega) only [w32_of, w64_of, w8_of, decide_eq_true_eq, decide_eq_false_iff_not, Bool.not_eq_true] at c3
    refine wp_bd (P := fun rr_ => II rr_ ∧ FC [kT_cuts, kT_share, kT_whole] [] σ rr_) ?_ ?_
    · refine wp_bd (s_T_wayX (σ := σ) (i_0 := i_0) hσ (by (try dsimp only) <;> first | assumption | omega | ((try simp (disch := omega) only [w32_of, w64_of, w8_of]) <;> first | assumption | omega | (split <;> omega) | (refine And.intro ?_ ?_ <;> split <;> omega)) | omega)) ?_
      rintro x_9 - g4
      try simp (disch := omega) only [w32_of, w64_of, w8_of] at g4
      have c6 := w64_rng x_9
      refine wp_if (fun c5 => ?_) (fun c5 => ?_)
      · try simp (disch := omega) only [w32_of, w64_of, w8_of, decide_eq_true_eq, decide_eq_false_iff_not, Bool.not_eq_true] at c5
        have c7 := w32_rng i_0
        refine wp_rdI (by (try dsimp only) <;> first | assumption | omega | ((try simp (disch := omega) only [w32_of, w64_of, w8_of]) <;> first | assumption | omega | (split <;> omega) | (refine And.intro ?_ ?_ <;> split <;> omega)) | omega) (by (try dsimp only) <;> first | assumption | omega | ((try simp (disch := omega) only [w32_of, w64_of, w8_of]) <;> first | assumption | omega | (split <;> omega) | (refine And.intro ?_ ?_ <;> split <;> omega)) | omega) (fun x_11 e_x_11 => ?_)
        have b_x_11 : (-1000000000) ≤ x_11 ∧ x_11 ≤ 1000000000 := by rw [e_x_11]; exact iiE_ax (s := 223) hσ (by decide) _
        try simp (disch := omega) only [w32_of, w64_of, w8_of] at e_x_11
        have c8 : (-1000000000) ≤ σ 57344 i_0 ∧ σ 57344 i_0 ≤ 1000000000 := iiE_ax (s := 223) hσ (by decide) i_0
        refine wp_bd (s_T_wayX (σ := σ) (i_0 := i_0) hσ (by (try dsimp only) <;> first | assumption | omega | ((try simp (disch := omega) only [w32_of, w64_of, w8_of]) <;> first | assumption | omega | (split <;> omega) | (refine And.intro ?_ ?_ <;> split <;> omega)) | omega)) ?_
        rintro x_14 - g9
        try simp (disch := omega) only [w32_of, w64_of, w8_of] at g9
        have c10 := w32_rng x_0
        have c11 := w32_rng x_11
        have c12 := q_abl_bd ((w32 x_0) - (w32 x_11))
        try simp (disch := omega) only [w32_of, w64_of, w8_of] at c12
        have c13 := q_abl_bd x_14
        try simp (disch := omega) only [w32_of, w64_of, w8_of] at c13
        refine wp_bd (s_T_addCut (σ := σ) (itsShare_0 := (q_abl ((w32 x_0) - (w32 x_11)))) (itsWhole_0 := (q_abl x_14)) hσ) ?_
        rintro σ_16 - ⟨hσ_16, flσ_16⟩
        have frσ_16 : FC [kT_cuts, kT_share, kT_whole] [] σ σ_16 := FC_le flσ_16 (by first | decide | (rcases hE with rfl | rfl | rfl <;> decide)) (by simp)
        exact wp_some ⟨hσ_16, frσ_16⟩
      · try simp (disch := omega) only [w32_of, w64_of, w8_of, decide_eq_true_eq, decide_eq_false_iff_not, Bool.not_eq_true] at c5
        have c14 := w32_rng i_0
        refine wp_rdI (by (try dsimp only) <;> first | assumption | omega | ((try simp (disch := omega) only [w32_of, w64_of, w8_of]) <;> first | assumption | omega | (split <;> omega) | (refine And.intro ?_ ?_ <;> split <;> omega)) | omega) (by (try dsimp only) <;> first | assumption | omega | ((try simp (disch := omega) only [w32_of, w64_of, w8_of]) <;> first | assumption | omega | (split <;> omega) | (refine And.intro ?_ ?_ <;> split <;> omega)) | omega) (fun x_18 e_x_18 => ?_)
        have b_x_18 : (-1000000000) ≤ x_18 ∧ x_18 ≤ 1000000000 := by rw [e_x_18]; exact iiE_ay (s := 223) hσ (by decide) _
        try simp (disch := omega) only [w32_of, w64_of, w8_of] at e_x_18
        have c15 : (-1000000000) ≤ σ 57600 i_0 ∧ σ 57600 i_0 ≤ 1000000000 := iiE_ay (s := 223) hσ (by decide) i_0
        refine wp_bd (s_T_wayY (σ := σ) (i_0 := i_0) hσ (by (try dsimp only) <;> first | assumption | omega | ((try simp (disch := omega) only [w32_of, w64_of, w8_of]) <;> first | assumption | omega | (split <;> omega) | (refine And.intro ?_ ?_ <;> split <;> omega)) | omega)) ?_
        rintro x_21 - g16
        try simp (disch := omega) only [w32_of, w64_of, w8_of] at g16
        have c17 := w32_rng y_0
        have c18 := w32_rng x_18
        have c19 := q_abl_bd ((w32 y_0) - (w32 x_18))
        try simp (disch := omega) only [w32_of, w64_of, w8_of] at c19
        have c20 := q_abl_bd x_21
        try simp (disch := omega) only [w32_of, w64_of, w8_of] at c20
        refine wp_bd (s_T_addCut (σ := σ) (itsShare_0 := (q_abl ((w32 y_0) - (w32 x_18)))) (itsWhole_0 := (q_abl x_21)) hσ) ?_
        rintro σ_23 - ⟨hσ_23, flσ_23⟩
        have frσ_23 : FC [kT_cuts, kT_share, kT_whole] [] σ σ_23 := FC_le flσ_23 (by first | decide | (rcases hE with rfl | rfl | rfl <;> decide)) (by simp)
        exact wp_some ⟨hσ_23, frσ_23⟩
    rintro σ_25 _ ⟨hσ_25, frσ_25⟩
    exact wp_some ⟨hσ_25, frσ_25⟩
  · try simp (disch := omega) only [w32_of, w64_of, w8_of, decide_eq_true_eq, decide_eq_false_iff_not, Bool.not_eq_true] at c3
    exact wp_some ⟨hσ, (FC_refl _ _ _)⟩
theorem s_T_cut {σ : SG} {i_0 : Int} {j_0 : Int} (hσ : II σ) (w0 : 0 ≤ i_0 ∧ i_0 ≤ 255) (w1 : 0 ≤ j_0 ∧ j_0 ≤ 255) : wp_ (fT_cut σ i_0 j_0) (fun zz_ => II zz_ ∧ FC [(kE_placeX 223), (kE_placeY 223), kT_cuts, kT_share, kT_whole] [] σ zz_) := by
  unfold fT_cut
  have c1 : ((gsz 223 : Nat) : Int) = 256 := by decide
  have c2 : ((gsz 223 : Nat) : Int) = 256 := by decide
  refine wp_bd (s_E_meet (σ := σ) (this_0 := 223) (i_0 := i_0) (j_0 := j_0) hσ (by decide) (by (try dsimp only) <;> first | assumption | omega | ((try simp (disch := omega) only [w32_of, w64_of, w8_of]) <;> first | assumption | omega | (split <;> omega) | (refine And.intro ?_ ?_ <;> split <;> omega)) | omega) (by (try dsimp only) <;> first | assumption | omega | ((try simp (disch := omega) only [w32_of, w64_of, w8_of]) <;> first | assumption | omega | (split <;> omega) | (refine And.intro ?_ ?_ <;> split <;> omega)) | omega)) ?_
  rintro ⟨x_3, σ_2⟩ - y5
  try dsimp only at y5 ⊢
  obtain ⟨hσ_2, flσ_2, g3, g4⟩ := y5
  have frσ_2 : FC [(kE_placeX 223), (kE_placeY 223), kT_cuts, kT_share, kT_whole] [] σ σ_2 := FC_le flσ_2 (by first | decide | (rcases hE with rfl | rfl | rfl <;> decide)) (by simp)
  try simp (disch := omega) only [w32_of, w64_of, w8_of] at g3
  try simp (disch := omega) only [w32_of, w64_of, w8_of] at g4
  refine wp_bd (P := fun rr_ => II rr_ ∧ FC [(kE_placeX 223), (kE_placeY 223), kT_cuts, kT_share, kT_whole] [] σ rr_) ?_ ?_
  · have c7 := w32_rng x_3
    refine wp_if (fun c6 => ?_) (fun c6 => ?_)
    · try simp (disch := omega) only [w32_of, w64_of, w8_of, decide_eq_true_eq, decide_eq_false_iff_not, Bool.not_eq_true] at c6
      have c8 := iiE_placeX (s := 223) hσ_2 (by decide) 0
      have c9 := iiE_placeY (s := 223) hσ_2 (by decide) 0
      refine wp_bd (s_T_cutAt (σ := σ_2) (i_0 := i_0) (x_0 := (σ_2 (kE_placeX 223) 0)) (y_0 := (σ_2 (kE_placeY 223) 0)) hσ_2 (by (try dsimp only) <;> first | assumption | omega | ((try simp (disch := omega) only [w32_of, w64_of, w8_of]) <;> first | assumption | omega | (split <;> omega) | (refine And.intro ?_ ?_ <;> split <;> omega)) | omega)) ?_
      rintro σ_10 - ⟨hσ_10, flσ_10⟩
      have frσ_10 : FC [(kE_placeX 223), (kE_placeY 223), kT_cuts, kT_share, kT_whole] [] σ σ_10 := FC_tr frσ_2 flσ_10 (by first | decide | (rcases hE with rfl | rfl | rfl <;> decide)) (by first | decide | (rcases hE with rfl | rfl | rfl <;> decide)) (by simp) (by simp)
      exact wp_some ⟨hσ_10, frσ_10⟩
    · try simp (disch := omega) only [w32_of, w64_of, w8_of, decide_eq_true_eq, decide_eq_false_iff_not, Bool.not_eq_true] at c6
      refine wp_bd (P := fun rr_ => II rr_ ∧ FC [(kE_placeX 223), (kE_placeY 223), kT_cuts, kT_share, kT_whole] [] σ rr_) ?_ ?_
      · refine wp_if (fun c10 => ?_) (fun c10 => ?_)
        · try simp (disch := omega) only [w32_of, w64_of, w8_of, decide_eq_true_eq, decide_eq_false_iff_not, Bool.not_eq_true] at c10
          have c11 := w32_rng j_0
          refine wp_rdI (by (try dsimp only) <;> first | assumption | omega | ((try simp (disch := omega) only [w32_of, w64_of, w8_of]) <;> first | assumption | omega | (split <;> omega) | (refine And.intro ?_ ?_ <;> split <;> omega)) | omega) (by (try dsimp only) <;> first | assumption | omega | ((try simp (disch := omega) only [w32_of, w64_of, w8_of]) <;> first | assumption | omega | (split <;> omega) | (refine And.intro ?_ ?_ <;> split <;> omega)) | omega) (fun x_17 e_x_17 => ?_)
          have b_x_17 : (-1000000000) ≤ x_17 ∧ x_17 ≤ 1000000000 := by rw [e_x_17]; exact iiE_ax (s := 223) hσ_2 (by decide) _
          rw [FC_at frσ_2 (c := 57344) (by first | decide | (rcases hE with rfl | rfl | rfl <;> decide))] at e_x_17
          try simp (disch := omega) only [w32_of, w64_of, w8_of] at e_x_17
          have c12 : (-1000000000) ≤ σ_2 57344 j_0 ∧ σ_2 57344 j_0 ≤ 1000000000 := iiE_ax (s := 223) hσ_2 (by decide) j_0
          have c13 := FC_at flσ_2 (c := 57344) (by first | decide | (rcases hE with rfl | rfl | rfl <;> decide)) j_0
          have c14 : (-1000000000) ≤ σ 57344 j_0 ∧ σ 57344 j_0 ≤ 1000000000 := iiE_ax (s := 223) hσ (by decide) j_0
          refine wp_rdI (by (try dsimp only) <;> first | assumption | omega | ((try simp (disch := omega) only [w32_of, w64_of, w8_of]) <;> first | assumption | omega | (split <;> omega) | (refine And.intro ?_ ?_ <;> split <;> omega)) | omega) (by (try dsimp only) <;> first | assumption | omega | ((try simp (disch := omega) only [w32_of, w64_of, w8_of]) <;> first | assumption | omega | (split <;> omega) | (refine And.intro ?_ ?_ <;> split <;> omega)) | omega) (fun x_19 e_x_19 => ?_)
          have b_x_19 : (-1000000000) ≤ x_19 ∧ x_19 ≤ 1000000000 := by rw [e_x_19]; exact iiE_ay (s := 223) hσ_2 (by decide) _
          rw [FC_at frσ_2 (c := 57600) (by first | decide | (rcases hE with rfl | rfl | rfl <;> decide))] at e_x_19
          try simp (disch := omega) only [w32_of, w64_of, w8_of] at e_x_19
          have c15 : (-1000000000) ≤ σ_2 57600 j_0 ∧ σ_2 57600 j_0 ≤ 1000000000 := iiE_ay (s := 223) hσ_2 (by decide) j_0
          have c16 := FC_at flσ_2 (c := 57600) (by first | decide | (rcases hE with rfl | rfl | rfl <;> decide)) j_0
          have c17 : (-1000000000) ≤ σ 57600 j_0 ∧ σ 57600 j_0 ≤ 1000000000 := iiE_ay (s := 223) hσ (by decide) j_0
          refine wp_bd (s_T_cutAt (σ := σ_2) (i_0 := i_0) (x_0 := x_17) (y_0 := x_19) hσ_2 (by (try dsimp only) <;> first | assumption | omega | ((try simp (disch := omega) only [w32_of, w64_of, w8_of]) <;> first | assumption | omega | (split <;> omega) | (refine And.intro ?_ ?_ <;> split <;> omega)) | omega)) ?_
          rintro σ_22 - ⟨hσ_22, flσ_22⟩
          have frσ_22 : FC [(kE_placeX 223), (kE_placeY 223), kT_cuts, kT_share, kT_whole] [] σ σ_22 := FC_tr frσ_2 flσ_22 (by first | decide | (rcases hE with rfl | rfl | rfl <;> decide)) (by first | decide | (rcases hE with rfl | rfl | rfl <;> decide)) (by simp) (by simp)
          refine wp_rdI (by (try dsimp only) <;> first | assumption | omega | ((try simp (disch := omega) only [w32_of, w64_of, w8_of]) <;> first | assumption | omega | (split <;> omega) | (refine And.intro ?_ ?_ <;> split <;> omega)) | omega) (by (try dsimp only) <;> first | assumption | omega | ((try simp (disch := omega) only [w32_of, w64_of, w8_of]) <;> first | assumption | omega | (split <;> omega) | (refine And.intro ?_ ?_ <;> split <;> omega)) | omega) (fun x_23 e_x_23 => ?_)
          have b_x_23 : (-1000000000) ≤ x_23 ∧ x_23 ≤ 1000000000 := by rw [e_x_23]; exact iiE_bx (s := 223) hσ_22 (by decide) _
          rw [FC_at frσ_22 (c := 57856) (by first | decide | (rcases hE with rfl | rfl | rfl <;> decide))] at e_x_23
          try simp (disch := omega) only [w32_of, w64_of, w8_of] at e_x_23
          have c18 : (-1000000000) ≤ σ_22 57856 j_0 ∧ σ_22 57856 j_0 ≤ 1000000000 := iiE_bx (s := 223) hσ_22 (by decide) j_0
          have c19 := FC_at flσ_22 (c := 57856) (by first | decide | (rcases hE with rfl | rfl | rfl <;> decide)) j_0
          have c20 : (-1000000000) ≤ σ_2 57856 j_0 ∧ σ_2 57856 j_0 ≤ 1000000000 := iiE_bx (s := 223) hσ_2 (by decide) j_0
          have c21 := FC_at flσ_2 (c := 57856) (by first | decide | (rcases hE with rfl | rfl | rfl <;> decide)) j_0
          have c22 : (-1000000000) ≤ σ 57856 j_0 ∧ σ 57856 j_0 ≤ 1000000000 := iiE_bx (s := 223) hσ (by decide) j_0
          refine wp_rdI (by (try dsimp only) <;> first | assumption | omega | ((try simp (disch := omega) only [w32_of, w64_of, w8_of]) <;> first | assumption | omega | (split <;> omega) | (refine And.intro ?_ ?_ <;> split <;> omega)) | omega) (by (try dsimp only) <;> first | assumption | omega | ((try simp (disch := omega) only [w32_of, w64_of, w8_of]) <;> first | assumption | omega | (split <;> omega) | (refine And.intro ?_ ?_ <;> split <;> omega)) | omega) (fun x_25 e_x_25 => ?_)
          have b_x_25 : (-1000000000) ≤ x_25 ∧ x_25 ≤ 1000000000 := by rw [e_x_25]; exact iiE_by (s := 223) hσ_22 (by decide) _
          rw [FC_at frσ_22 (c := 58112) (by first | decide | (rcases hE with rfl | rfl | rfl <;> decide))] at e_x_25
          try simp (disch := omega) only [w32_of, w64_of, w8_of] at e_x_25
          have c23 : (-1000000000) ≤ σ_22 58112 j_0 ∧ σ_22 58112 j_0 ≤ 1000000000 := iiE_by (s := 223) hσ_22 (by decide) j_0
          have c24 := FC_at flσ_22 (c := 58112) (by first | decide | (rcases hE with rfl | rfl | rfl <;> decide)) j_0
          have c25 : (-1000000000) ≤ σ_2 58112 j_0 ∧ σ_2 58112 j_0 ≤ 1000000000 := iiE_by (s := 223) hσ_2 (by decide) j_0
          have c26 := FC_at flσ_2 (c := 58112) (by first | decide | (rcases hE with rfl | rfl | rfl <;> decide)) j_0
          have c27 : (-1000000000) ≤ σ 58112 j_0 ∧ σ 58112 j_0 ≤ 1000000000 := iiE_by (s := 223) hσ (by decide) j_0
          refine wp_bd (s_T_cutAt (σ := σ_22) (i_0 := i_0) (x_0 := x_23) (y_0 := x_25) hσ_22 (by (try dsimp only) <;> first | assumption | omega | ((try simp (disch := omega) only [w32_of, w64_of, w8_of]) <;> first | assumption | omega | (split <;> omega) | (refine And.intro ?_ ?_ <;> split <;> omega)) | omega)) ?_
          rintro σ_28 - ⟨hσ_28, flσ_28⟩
          have frσ_28 : FC [(kE_placeX 223), (kE_placeY 223), kT_cuts, kT_share, kT_whole] [] σ σ_28 := FC_tr frσ_22 flσ_28 (by first | decide | (rcases hE with rfl | rfl | rfl <;> decide)) (by first | decide | (rcases hE with rfl | rfl | rfl <;> decide)) (by simp) (by simp)
          exact wp_some ⟨hσ_28, frσ_28⟩
        · try simp (disch := omega) only [w32_of, w64_of, w8_of, decide_eq_true_eq, decide_eq_false_iff_not, Bool.not_eq_true] at c10
          refine wp_bd (P := fun rr_ => II rr_ ∧ FC [(kE_placeX 223), (kE_placeY 223), kT_cuts, kT_share, kT_whole] [] σ rr_) ?_ ?_
          · refine wp_if (fun c28 => ?_) (fun c28 => ?_)
            · try simp (disch := omega) only [w32_of, w64_of, w8_of, decide_eq_true_eq, decide_eq_false_iff_not, Bool.not_eq_true] at c28
              refine wp_bd (s_T_wayX (σ := σ_2) (i_0 := j_0) hσ_2 (by (try dsimp only) <;> first | assumption | omega | ((try simp (disch := omega) only [w32_of, w64_of, w8_of]) <;> first | assumption | omega | (split <;> omega) | (refine And.intro ?_ ?_ <;> split <;> omega)) | omega)) ?_
              rintro x_36 - g29
              try simp (disch := omega) only [w32_of, w64_of, w8_of] at g29
              refine wp_bd (s_T_wayY (σ := σ_2) (i_0 := j_0) hσ_2 (by (try dsimp only) <;> first | assumption | omega | ((try simp (disch := omega) only [w32_of, w64_of, w8_of]) <;> first | assumption | omega | (split <;> omega) | (refine And.intro ?_ ?_ <;> split <;> omega)) | omega)) ?_
              rintro x_38 - g30
              try simp (disch := omega) only [w32_of, w64_of, w8_of] at g30
              have c31 := w32_rng j_0
              refine wp_rdI (by (try dsimp only) <;> first | assumption | omega | ((try simp (disch := omega) only [w32_of, w64_of, w8_of]) <;> first | assumption | omega | (split <;> omega) | (refine And.intro ?_ ?_ <;> split <;> omega)) | omega) (by (try dsimp only) <;> first | assumption | omega | ((try simp (disch := omega) only [w32_of, w64_of, w8_of]) <;> first | assumption | omega | (split <;> omega) | (refine And.intro ?_ ?_ <;> split <;> omega)) | omega) (fun x_39 e_x_39 => ?_)
              have b_x_39 : (-1000000000) ≤ x_39 ∧ x_39 ≤ 1000000000 := by rw [e_x_39]; exact iiE_ax (s := 223) hσ_2 (by decide) _
              rw [FC_at frσ_2 (c := 57344) (by first | decide | (rcases hE with rfl | rfl | rfl <;> decide))] at e_x_39
              try simp (disch := omega) only [w32_of, w64_of, w8_of] at e_x_39
              have c32 : (-1000000000) ≤ σ_2 57344 j_0 ∧ σ_2 57344 j_0 ≤ 1000000000 := iiE_ax (s := 223) hσ_2 (by decide) j_0
              have c33 := FC_at flσ_2 (c := 57344) (by first | decide | (rcases hE with rfl | rfl | rfl <;> decide)) j_0
              have c34 : (-1000000000) ≤ σ 57344 j_0 ∧ σ 57344 j_0 ≤ 1000000000 := iiE_ax (s := 223) hσ (by decide) j_0
              have c35 := w32_rng i_0
              refine wp_rdI (by (try dsimp only) <;> first | assumption | omega | ((try simp (disch := omega) only [w32_of, w64_of, w8_of]) <;> first | assumption | omega | (split <;> omega) | (refine And.intro ?_ ?_ <;> split <;> omega)) | omega) (by (try dsimp only) <;> first | assumption | omega | ((try simp (disch := omega) only [w32_of, w64_of, w8_of]) <;> first | assumption | omega | (split <;> omega) | (refine And.intro ?_ ?_ <;> split <;> omega)) | omega) (fun x_41 e_x_41 => ?_)
              have b_x_41 : (-1000000000) ≤ x_41 ∧ x_41 ≤ 1000000000 := by rw [e_x_41]; exact iiE_ax (s := 223) hσ_2 (by decide) _
              rw [FC_at frσ_2 (c := 57344) (by first | decide | (rcases hE with rfl | rfl | rfl <;> decide))] at e_x_41
              try simp (disch := omega) only [w32_of, w64_of, w8_of] at e_x_41
              have c36 : (-1000000000) ≤ σ_2 57344 i_0 ∧ σ_2 57344 i_0 ≤ 1000000000 := iiE_ax (s := 223) hσ_2 (by decide) i_0
              have c37 := FC_at flσ_2 (c := 57344) (by first | decide | (rcases hE with rfl | rfl | rfl <;> decide)) i_0
              have c38 : (-1000000000) ≤ σ 57344 i_0 ∧ σ 57344 i_0 ≤ 1000000000 := iiE_ax (s := 223) hσ (by decide) i_0
              refine wp_rdI (by (try dsimp only) <;> first | assumption | omega | ((try simp (disch := omega) only [w32_of, w64_of, w8_of]) <;> first | assumption | omega | (split <;> omega) | (refine And.intro ?_ ?_ <;> split <;> omega)) | omega) (by (try dsimp only) <;> first | assumption | omega | ((try simp (disch := omega) only [w32_of, w64_of, w8_of]) <;> first | assumption | omega | (split <;> omega) | (refine And.intro ?_ ?_ <;> split <;> omega)) | omega) (fun x_43 e_x_43 => ?_)
              have b_x_43 : (-1000000000) ≤ x_43 ∧ x_43 ≤ 1000000000 := by rw [e_x_43]; exact iiE_ay (s := 223) hσ_2 (by decide) _
              rw [FC_at frσ_2 (c := 57600) (by first | decide | (rcases hE with rfl | rfl | rfl <;> decide))] at e_x_43
              try simp (disch := omega) only [w32_of, w64_of, w8_of] at e_x_43
              have c39 : (-1000000000) ≤ σ_2 57600 j_0 ∧ σ_2 57600 j_0 ≤ 1000000000 := iiE_ay (s := 223) hσ_2 (by decide) j_0
              have c40 := FC_at flσ_2 (c := 57600) (by first | decide | (rcases hE with rfl | rfl | rfl <;> decide)) j_0
              have c41 : (-1000000000) ≤ σ 57600 j_0 ∧ σ 57600 j_0 ≤ 1000000000 := iiE_ay (s := 223) hσ (by decide) j_0
              refine wp_rdI (by (try dsimp only) <;> first | assumption | omega | ((try simp (disch := omega) only [w32_of, w64_of, w8_of]) <;> first | assumption | omega | (split <;> omega) | (refine And.intro ?_ ?_ <;> split <;> omega)) | omega) (by (try dsimp only) <;> first | assumption | omega | ((try simp (disch := omega) only [w32_of, w64_of, w8_of]) <;> first | assumption | omega | (split <;> omega) | (refine And.intro ?_ ?_ <;> split <;> omega)) | omega) (fun x_45 e_x_45 => ?_)
              have b_x_45 : (-1000000000) ≤ x_45 ∧ x_45 ≤ 1000000000 := by rw [e_x_45]; exact iiE_ay (s := 223) hσ_2 (by decide) _
              rw [FC_at frσ_2 (c := 57600) (by first | decide | (rcases hE with rfl | rfl | rfl <;> decide))] at e_x_45
              try simp (disch := omega) only [w32_of, w64_of, w8_of] at e_x_45
              have c42 : (-1000000000) ≤ σ_2 57600 i_0 ∧ σ_2 57600 i_0 ≤ 1000000000 := iiE_ay (s := 223) hσ_2 (by decide) i_0
              have c43 := FC_at flσ_2 (c := 57600) (by first | decide | (rcases hE with rfl | rfl | rfl <;> decide)) i_0
              have c44 : (-1000000000) ≤ σ 57600 i_0 ∧ σ 57600 i_0 ≤ 1000000000 := iiE_ay (s := 223) hσ (by decide) i_0
              refine wp_bd (s_T_wayX (σ := σ_2) (i_0 := i_0) hσ_2 (by (try dsimp only) <;> first | assumption | omega | ((try simp (disch := omega) only [w32_of, w64_of, w8_of]) <;> first | assumption | omega | (split <;> omega) | (refine And.intro ?_ ?_ <;> split <;> omega)) | omega)) ?_
              rintro x_48 - g45
              try simp (disch := omega) only [w32_of, w64_of, w8_of] at g45
              refine wp_bd (s_T_wayY (σ := σ_2) (i_0 := i_0) hσ_2 (by (try dsimp only) <;> first | assumption | omega | ((try simp (disch := omega) only [w32_of, w64_of, w8_of]) <;> first | assumption | omega | (split <;> omega) | (refine And.intro ?_ ?_ <;> split <;> omega)) | omega)) ?_
              rintro x_50 - g46
              try simp (disch := omega) only [w32_of, w64_of, w8_of] at g46
              have c47 := w32_rng x_39
              have c48 := w32_rng x_41
              have c49 := w32_rng x_43
              have c50 := w32_rng x_45
              have c51 := q_abl_bd ((((w32 x_39) - (w32 x_41)) * x_38) - (((w32 x_43) - (w32 x_45)) * x_36))
              try simp (disch := omega) only [w32_of, w64_of, w8_of] at c51
              have c52 := q_abl_bd ((x_48 * x_38) - (x_50 * x_36))
              try simp (disch := omega) only [w32_of, w64_of, w8_of] at c52
              refine wp_bd (s_T_addCut (σ := σ_2) (itsShare_0 := (q_abl ((((w32 x_39) - (w32 x_41)) * x_38) - (((w32 x_43) - (w32 x_45)) * x_36)))) (itsWhole_0 := (q_abl ((x_48 * x_38) - (x_50 * x_36)))) hσ_2) ?_
              rintro σ_52 - ⟨hσ_52, flσ_52⟩
              have frσ_52 : FC [(kE_placeX 223), (kE_placeY 223), kT_cuts, kT_share, kT_whole] [] σ σ_52 := FC_tr frσ_2 flσ_52 (by first | decide | (rcases hE with rfl | rfl | rfl <;> decide)) (by first | decide | (rcases hE with rfl | rfl | rfl <;> decide)) (by simp) (by simp)
              exact wp_some ⟨hσ_52, frσ_52⟩
            · try simp (disch := omega) only [w32_of, w64_of, w8_of, decide_eq_true_eq, decide_eq_false_iff_not, Bool.not_eq_true] at c28
              exact wp_some ⟨hσ_2, frσ_2⟩
          rintro σ_55 _ ⟨hσ_55, frσ_55⟩
          exact wp_some ⟨hσ_55, frσ_55⟩
      rintro σ_58 _ ⟨hσ_58, frσ_58⟩
      exact wp_some ⟨hσ_58, frσ_58⟩
  rintro σ_61 _ ⟨hσ_61, frσ_61⟩
  exact wp_some ⟨hσ_61, frσ_61⟩
theorem s_T_addEdges {σ : SG} {one_0 : Nat} {two_0 : Nat} {i_0 : Int} (hσ : II σ) (hs_one_0 : isS one_0) (hs_two_0 : isS two_0) (w0 : 0 ≤ i_0 ∧ i_0 ≤ 255) (w1 : σ (kE_size 223) 0 ≤ 256) : wp_ (fT_addEdges σ one_0 two_0 i_0) (fun zz_ => II zz_ ∧ FC [(kE_placeX 223), (kE_placeY 223), kT_covers, kT_crossed, kT_cuts, kT_matrix, kT_share, kT_whole] [] σ zz_) := by
  unfold fT_addEdges
  have c1 := iiE_size (s := 223) hσ (by decide) 0
  refine wp_wfI hσ b_kT_cuts (by (try dsimp only) <;> first | assumption | omega | ((try simp (disch := omega) only [w32_of, w64_of, w8_of]) <;> first | assumption | omega | (split <;> omega) | (refine And.intro ?_ ?_ <;> split <;> omega)) | omega) (fun σ_1 hσ_1 eσ_1 => ?_)
  try simp (disch := omega) only [w32_of, w64_of, w8_of] at eσ_1
  have flσ_1 := FC_sg eσ_1 (by first | decide | (rcases hE with rfl | rfl | rfl <;> decide))
  have frσ_1 : FC [(kE_placeX 223), (kE_placeY 223), kT_covers, kT_crossed, kT_cuts, kT_matrix, kT_share, kT_whole] [] σ σ_1 := FC_le flσ_1 (by first | decide | (rcases hE with rfl | rfl | rfl <;> decide)) (by simp)
  refine wp_bd (s_T_addCut (σ := σ_1) (itsShare_0 := 0) (itsWhole_0 := 1) hσ_1) ?_
  rintro σ_3 - ⟨hσ_3, flσ_3⟩
  have frσ_3 : FC [(kE_placeX 223), (kE_placeY 223), kT_covers, kT_crossed, kT_cuts, kT_matrix, kT_share, kT_whole] [] σ σ_3 := FC_tr frσ_1 flσ_3 (by first | decide | (rcases hE with rfl | rfl | rfl <;> decide)) (by first | decide | (rcases hE with rfl | rfl | rfl <;> decide)) (by simp) (by simp)
  refine wp_bd (P := fun rr_ => II rr_.2 ∧ FC [(kE_placeX 223), (kE_placeY 223), kT_covers, kT_crossed, kT_cuts, kT_matrix, kT_share, kT_whole] [] σ rr_.2 ∧ (True)) ?_ ?_
  · refine wp_whl (fun ss_ => II ss_.2 ∧ FC [(kE_placeX 223), (kE_placeY 223), kT_covers, kT_crossed, kT_cuts, kT_matrix, kT_share, kT_whole] [] σ ss_.2 ∧ (0 ≤ ss_.1 ∧ ss_.1 ≤ 256)) (fun ss_ => (257 - ss_.1).toNat) ⟨hσ_3, frσ_3, (by (try dsimp only) <;> first | assumption | omega | ((try simp (disch := omega) only [w32_of, w64_of, w8_of]) <;> first | assumption | omega | (split <;> omega) | (refine And.intro ?_ ?_ <;> split <;> omega)) | omega)⟩ ?_
    rintro ⟨j_4, σ_5⟩ y3
    try dsimp only at y3 ⊢
    obtain ⟨hσ_5, frσ_5, g2⟩ := y3
    have c5 := w32_rng j_4
    have c6 := iiE_size (s := 223) hσ_5 (by decide) 0
    have c7 := FC_at frσ_5 (c := (kE_size 223)) (by first | decide | (rcases hE with rfl | rfl | rfl <;> decide)) 0
    have c8 := w32_rng (σ_5 (kE_size 223) 0)
    refine wp_if (fun c4 => ?_) (fun c4 => ?_)
    · try simp (disch := omega) only [w32_of, w64_of, w8_of, decide_eq_true_eq, decide_eq_false_iff_not, Bool.not_eq_true] at c4
      refine wp_bd (P := fun rr_ => II rr_ ∧ FC [(kE_placeX 223), (kE_placeY 223), kT_covers, kT_crossed, kT_cuts, kT_matrix, kT_share, kT_whole] [] σ rr_) ?_ ?_
      · have c10 := w32_rng i_0
        refine wp_if (fun c9 => ?_) (fun c9 => ?_)
        · try simp (disch := omega) only [w32_of, w64_of, w8_of, decide_eq_true_eq, decide_eq_false_iff_not, Bool.not_eq_true] at c9
          refine wp_bd (s_T_cut (σ := σ_5) (i_0 := i_0) (j_0 := j_4) hσ_5 (by (try dsimp only) <;> first | assumption | omega | ((try simp (disch := omega) only [w32_of, w64_of, w8_of]) <;> first | assumption | omega | (split <;> omega) | (refine And.intro ?_ ?_ <;> split <;> omega)) | omega) (by (try dsimp only) <;> first | assumption | omega | ((try simp (disch := omega) only [w32_of, w64_of, w8_of]) <;> first | assumption | omega | (split <;> omega) | (refine And.intro ?_ ?_ <;> split <;> omega)) | omega)) ?_
          rintro σ_20 - ⟨hσ_20, flσ_20⟩
          have frσ_20 : FC [(kE_placeX 223), (kE_placeY 223), kT_covers, kT_crossed, kT_cuts, kT_matrix, kT_share, kT_whole] [] σ σ_20 := FC_tr frσ_5 flσ_20 (by first | decide | (rcases hE with rfl | rfl | rfl <;> decide)) (by first | decide | (rcases hE with rfl | rfl | rfl <;> decide)) (by simp) (by simp)
          exact wp_some ⟨hσ_20, frσ_20⟩
        · try simp (disch := omega) only [w32_of, w64_of, w8_of, decide_eq_true_eq, decide_eq_false_iff_not, Bool.not_eq_true] at c9
          exact wp_some ⟨hσ_5, frσ_5⟩
      rintro σ_23 _ ⟨hσ_23, frσ_23⟩
      exact wp_some (x_inl ⟨⟨hσ_23, frσ_23, (by (try dsimp only) <;> first | assumption | omega | ((try simp (disch := omega) only [w32_of, w64_of, w8_of]) <;> first | assumption | omega | (split <;> omega) | (refine And.intro ?_ ?_ <;> split <;> omega)) | omega)⟩, (by (try dsimp only) <;> first | assumption | omega | ((try simp (disch := omega) only [w32_of, w64_of, w8_of]) <;> first | assumption | omega | (split <;> omega) | (refine And.intro ?_ ?_ <;> split <;> omega)) | omega)⟩)
    · try simp (disch := omega) only [w32_of, w64_of, w8_of, decide_eq_true_eq, decide_eq_false_iff_not, Bool.not_eq_true] at c4
      exact wp_some (x_inr ⟨hσ_5, frσ_5, (by (try dsimp only) <;> first | assumption | omega | ((try simp (disch := omega) only [w32_of, w64_of, w8_of]) <;> first | assumption | omega | (split <;> omega) | (refine And.intro ?_ ?_ <;> split <;> omega)) | omega)⟩)
  rintro ⟨j_27, σ_28⟩ _ y12
  try dsimp only at y12 ⊢
  obtain ⟨hσ_28, frσ_28, g11⟩ := y12
  refine wp_bd (P := fun rr_ => II rr_.2 ∧ FC [(kE_placeX 223), (kE_placeY 223), kT_covers, kT_crossed, kT_cuts, kT_matrix, kT_share, kT_whole] [] σ rr_.2 ∧ (True)) ?_ ?_
  · refine wp_whl (fun ss_ => II ss_.2 ∧ FC [(kE_placeX 223), (kE_placeY 223), kT_covers, kT_crossed, kT_cuts, kT_matrix, kT_share, kT_whole] [] σ ss_.2 ∧ (0 ≤ ss_.1 ∧ ss_.1 ≤ 512)) (fun ss_ => (513 - ss_.1).toNat) ⟨hσ_28, frσ_28, (by (try dsimp only) <;> first | assumption | omega | ((try simp (disch := omega) only [w32_of, w64_of, w8_of]) <;> first | assumption | omega | (split <;> omega) | (refine And.intro ?_ ?_ <;> split <;> omega)) | omega)⟩ ?_
    rintro ⟨k_29, σ_30⟩ y14
    try dsimp only at y14 ⊢
    obtain ⟨hσ_30, frσ_30, g13⟩ := y14
    have c16 := w32_rng k_29
    have c17 := ii_kT_cuts hσ_30 0
    have c18 := w32_rng (σ_30 kT_cuts 0)
    refine wp_if (fun c15 => ?_) (fun c15 => ?_)
    · try simp (disch := omega) only [w32_of, w64_of, w8_of, decide_eq_true_eq, decide_eq_false_iff_not, Bool.not_eq_true] at c15
      refine wp_bd (P := fun rr_ => II rr_ ∧ FC [(kE_placeX 223), (kE_placeY 223), kT_covers, kT_crossed, kT_cuts, kT_matrix, kT_share, kT_whole] [] σ rr_) ?_ ?_
      · refine wp_if (fun c19 => ?_) (fun c19 => ?_)
        · try simp (disch := omega) only [w32_of, w64_of, w8_of, decide_eq_true_eq, decide_eq_false_iff_not, Bool.not_eq_true] at c19
          have c20 := iiE_size (s := 223) hσ_30 (by decide) 0
          have c21 := FC_at frσ_30 (c := (kE_size 223)) (by first | decide | (rcases hE with rfl | rfl | rfl <;> decide)) 0
          refine wp_bd (s_T_addEdge (σ := σ_30) (one_0 := one_0) (two_0 := two_0) (i_0 := i_0) (cut_0 := k_29) hσ_30 (by first | assumption | decide | omega) (by first | assumption | decide | omega) (by (try dsimp only) <;> first | assumption | omega | ((try simp (disch := omega) only [w32_of, w64_of, w8_of]) <;> first | assumption | omega | (split <;> omega) | (refine And.intro ?_ ?_ <;> split <;> omega)) | omega) (by (try dsimp only) <;> first | assumption | omega | ((try simp (disch := omega) only [w32_of, w64_of, w8_of]) <;> first | assumption | omega | (split <;> omega) | (refine And.intro ?_ ?_ <;> split <;> omega)) | omega) (by (try dsimp only) <;> first | assumption | omega | ((try simp (disch := omega) only [w32_of, w64_of, w8_of]) <;> first | assumption | omega | (split <;> omega) | (refine And.intro ?_ ?_ <;> split <;> omega)) | omega)) ?_
          rintro σ_61 - ⟨hσ_61, flσ_61⟩
          have frσ_61 : FC [(kE_placeX 223), (kE_placeY 223), kT_covers, kT_crossed, kT_cuts, kT_matrix, kT_share, kT_whole] [] σ σ_61 := FC_tr frσ_30 flσ_61 (by first | decide | (rcases hE with rfl | rfl | rfl <;> decide)) (by first | decide | (rcases hE with rfl | rfl | rfl <;> decide)) (by simp) (by simp)
          exact wp_some ⟨hσ_61, frσ_61⟩
        · try simp (disch := omega) only [w32_of, w64_of, w8_of, decide_eq_true_eq, decide_eq_false_iff_not, Bool.not_eq_true] at c19
          have c22 := w32_rng (k_29 - 1)
          refine wp_rdI (by (try dsimp only) <;> first | assumption | omega | ((try simp (disch := omega) only [w32_of, w64_of, w8_of]) <;> first | assumption | omega | (split <;> omega) | (refine And.intro ?_ ?_ <;> split <;> omega)) | omega) (by (try dsimp only) <;> first | assumption | omega | ((try simp (disch := omega) only [w32_of, w64_of, w8_of]) <;> first | assumption | omega | (split <;> omega) | (refine And.intro ?_ ?_ <;> split <;> omega)) | omega) (fun x_63 e_x_63 => ?_)
          try simp (disch := omega) only [w32_of, w64_of, w8_of] at e_x_63
          refine wp_rdI (by (try dsimp only) <;> first | assumption | omega | ((try simp (disch := omega) only [w32_of, w64_of, w8_of]) <;> first | assumption | omega | (split <;> omega) | (refine And.intro ?_ ?_ <;> split <;> omega)) | omega) (by (try dsimp only) <;> first | assumption | omega | ((try simp (disch := omega) only [w32_of, w64_of, w8_of]) <;> first | assumption | omega | (split <;> omega) | (refine And.intro ?_ ?_ <;> split <;> omega)) | omega) (fun x_65 e_x_65 => ?_)
          try simp (disch := omega) only [w32_of, w64_of, w8_of] at e_x_65
          refine wp_rdI (by (try dsimp only) <;> first | assumption | omega | ((try simp (disch := omega) only [w32_of, w64_of, w8_of]) <;> first | assumption | omega | (split <;> omega) | (refine And.intro ?_ ?_ <;> split <;> omega)) | omega) (by (try dsimp only) <;> first | assumption | omega | ((try simp (disch := omega) only [w32_of, w64_of, w8_of]) <;> first | assumption | omega | (split <;> omega) | (refine And.intro ?_ ?_ <;> split <;> omega)) | omega) (fun x_67 e_x_67 => ?_)
          try simp (disch := omega) only [w32_of, w64_of, w8_of] at e_x_67
          refine wp_rdI (by (try dsimp only) <;> first | assumption | omega | ((try simp (disch := omega) only [w32_of, w64_of, w8_of]) <;> first | assumption | omega | (split <;> omega) | (refine And.intro ?_ ?_ <;> split <;> omega)) | omega) (by (try dsimp only) <;> first | assumption | omega | ((try simp (disch := omega) only [w32_of, w64_of, w8_of]) <;> first | assumption | omega | (split <;> omega) | (refine And.intro ?_ ?_ <;> split <;> omega)) | omega) (fun x_69 e_x_69 => ?_)
          try simp (disch := omega) only [w32_of, w64_of, w8_of] at e_x_69
          have c24 := p_Q_signOfSum (a_0 := x_63) (b_0 := x_65) (c_0 := (-x_67)) (d_0 := x_69) (e_0 := 0) (f_0 := 0)
          have c25 := w32_rng (fQ_signOfSum x_63 x_65 (-x_67) x_69 0 0)
          refine wp_if (fun c23 => ?_) (fun c23 => ?_)
          · try simp (disch := omega) only [w32_of, w64_of, w8_of, decide_eq_true_eq, decide_eq_false_iff_not, Bool.not_eq_true] at c23
            have c26 := iiE_size (s := 223) hσ_30 (by decide) 0
            have c27 := FC_at frσ_30 (c := (kE_size 223)) (by first | decide | (rcases hE with rfl | rfl | rfl <;> decide)) 0
            refine wp_bd (s_T_addEdge (σ := σ_30) (one_0 := one_0) (two_0 := two_0) (i_0 := i_0) (cut_0 := k_29) hσ_30 (by first | assumption | decide | omega) (by first | assumption | decide | omega) (by (try dsimp only) <;> first | assumption | omega | ((try simp (disch := omega) only [w32_of, w64_of, w8_of]) <;> first | assumption | omega | (split <;> omega) | (refine And.intro ?_ ?_ <;> split <;> omega)) | omega) (by (try dsimp only) <;> first | assumption | omega | ((try simp (disch := omega) only [w32_of, w64_of, w8_of]) <;> first | assumption | omega | (split <;> omega) | (refine And.intro ?_ ?_ <;> split <;> omega)) | omega) (by (try dsimp only) <;> first | assumption | omega | ((try simp (disch := omega) only [w32_of, w64_of, w8_of]) <;> first | assumption | omega | (split <;> omega) | (refine And.intro ?_ ?_ <;> split <;> omega)) | omega)) ?_
            rintro σ_73 - ⟨hσ_73, flσ_73⟩
            have frσ_73 : FC [(kE_placeX 223), (kE_placeY 223), kT_covers, kT_crossed, kT_cuts, kT_matrix, kT_share, kT_whole] [] σ σ_73 := FC_tr frσ_30 flσ_73 (by first | decide | (rcases hE with rfl | rfl | rfl <;> decide)) (by first | decide | (rcases hE with rfl | rfl | rfl <;> decide)) (by simp) (by simp)
            exact wp_some ⟨hσ_73, frσ_73⟩
          · try simp (disch := omega) only [w32_of, w64_of, w8_of, decide_eq_true_eq, decide_eq_false_iff_not, Bool.not_eq_true] at c23
            exact wp_some ⟨hσ_30, frσ_30⟩
      rintro σ_76 _ ⟨hσ_76, frσ_76⟩
      exact wp_some (x_inl ⟨⟨hσ_76, frσ_76, (by (try dsimp only) <;> first | assumption | omega | ((try simp (disch := omega) only [w32_of, w64_of, w8_of]) <;> first | assumption | omega | (split <;> omega) | (refine And.intro ?_ ?_ <;> split <;> omega)) | omega)⟩, (by (try dsimp only) <;> first | assumption | omega | ((try simp (disch := omega) only [w32_of, w64_of, w8_of]) <;> first | assumption | omega | (split <;> omega) | (refine And.intro ?_ ?_ <;> split <;> omega)) | omega)⟩)
    · try simp (disch := omega) only [w32_of, w64_of, w8_of, decide_eq_true_eq, decide_eq_false_iff_not, Bool.not_eq_true] at c15
      exact wp_some (x_inr ⟨hσ_30, frσ_30, (by (try dsimp only) <;> first | assumption | omega | ((try simp (disch := omega) only [w32_of, w64_of, w8_of]) <;> first | assumption | omega | (split <;> omega) | (refine And.intro ?_ ?_ <;> split <;> omega)) | omega)⟩)
  rintro ⟨k_80, σ_81⟩ _ y29
  try dsimp only at y29 ⊢
  obtain ⟨hσ_81, frσ_81, g28⟩ := y29
  exact wp_some ⟨hσ_81, frσ_81⟩
theorem s_T_isRimOfBoth {σ : SG} {i_0 : Int} {j_0 : Int} (hσ : II σ) (w0 : 0 ≤ i_0 ∧ i_0 ≤ 255) (w1 : 0 ≤ j_0 ∧ j_0 ≤ 255) : wp_ (fT_isRimOfBoth σ i_0 j_0) (fun zz_ => True) := by
  unfold fT_isRimOfBoth
  refine wp_bx (P := fun rr_ => True) ?_ ?_
  · refine wp_whl (fun ss_ => (0 ≤ ss_ ∧ ss_ ≤ 512)) (fun ss_ => (513 - ss_).toNat) (by (try dsimp only) <;> first | assumption | omega | ((try simp (disch := omega) only [w32_of, w64_of, w8_of]) <;> first | assumption | omega | (split <;> omega) | (refine And.intro ?_ ?_ <;> split <;> omega)) | omega) ?_
    rintro k_1 g1
    have c3 := w32_rng k_1
    have c4 := ii_kT_rims hσ 0
    have c5 := w32_rng (σ kT_rims 0)
    refine wp_if (fun c2 => ?_) (fun c2 => ?_)
    · try simp (disch := omega) only [w32_of, w64_of, w8_of, decide_eq_true_eq, decide_eq_false_iff_not, Bool.not_eq_true] at c2
      refine wp_rdI (by (try dsimp only) <;> first | assumption | omega | ((try simp (disch := omega) only [w32_of, w64_of, w8_of]) <;> first | assumption | omega | (split <;> omega) | (refine And.intro ?_ ?_ <;> split <;> omega)) | omega) (by (try dsimp only) <;> first | assumption | omega | ((try simp (disch := omega) only [w32_of, w64_of, w8_of]) <;> first | assumption | omega | (split <;> omega) | (refine And.intro ?_ ?_ <;> split <;> omega)) | omega) (fun x_28 e_x_28 => ?_)
      try simp (disch := omega) only [w32_of, w64_of, w8_of] at e_x_28
      refine wp_rdI (by (try dsimp only) <;> first | assumption | omega | ((try simp (disch := omega) only [w32_of, w64_of, w8_of]) <;> first | assumption | omega | (split <;> omega) | (refine And.intro ?_ ?_ <;> split <;> omega)) | omega) (by (try dsimp only) <;> first | assumption | omega | ((try simp (disch := omega) only [w32_of, w64_of, w8_of]) <;> first | assumption | omega | (split <;> omega) | (refine And.intro ?_ ?_ <;> split <;> omega)) | omega) (fun x_30 e_x_30 => ?_)
      try simp (disch := omega) only [w32_of, w64_of, w8_of] at e_x_30
      have c6 : ((gsz 223 : Nat) : Int) = 256 := by decide
      refine wp_bd (s_E_holds (σ := σ) (this_0 := 223) (i_0 := i_0) (x_0 := x_28) (y_0 := x_30) hσ (by decide) (by (try dsimp only) <;> first | assumption | omega | ((try simp (disch := omega) only [w32_of, w64_of, w8_of]) <;> first | assumption | omega | (split <;> omega) | (refine And.intro ?_ ?_ <;> split <;> omega)) | omega)) ?_
      rintro x_33 - -
      refine wp_if (fun c8 => ?_) (fun c8 => ?_)
      · try simp (disch := omega) only [w32_of, w64_of, w8_of, decide_eq_true_eq, decide_eq_false_iff_not, Bool.not_eq_true] at c8
        refine wp_rdI (by (try dsimp only) <;> first | assumption | omega | ((try simp (disch := omega) only [w32_of, w64_of, w8_of]) <;> first | assumption | omega | (split <;> omega) | (refine And.intro ?_ ?_ <;> split <;> omega)) | omega) (by (try dsimp only) <;> first | assumption | omega | ((try simp (disch := omega) only [w32_of, w64_of, w8_of]) <;> first | assumption | omega | (split <;> omega) | (refine And.intro ?_ ?_ <;> split <;> omega)) | omega) (fun x_35 e_x_35 => ?_)
        try simp (disch := omega) only [w32_of, w64_of, w8_of] at e_x_35
        refine wp_rdI (by (try dsimp only) <;> first | assumption | omega | ((try simp (disch := omega) only [w32_of, w64_of, w8_of]) <;> first | assumption | omega | (split <;> omega) | (refine And.intro ?_ ?_ <;> split <;> omega)) | omega) (by (try dsimp only) <;> first | assumption | omega | ((try simp (disch := omega) only [w32_of, w64_of, w8_of]) <;> first | assumption | omega | (split <;> omega) | (refine And.intro ?_ ?_ <;> split <;> omega)) | omega) (fun x_37 e_x_37 => ?_)
        try simp (disch := omega) only [w32_of, w64_of, w8_of] at e_x_37
        have c9 : ((gsz 223 : Nat) : Int) = 256 := by decide
        refine wp_bd (s_E_holds (σ := σ) (this_0 := 223) (i_0 := j_0) (x_0 := x_35) (y_0 := x_37) hσ (by decide) (by (try dsimp only) <;> first | assumption | omega | ((try simp (disch := omega) only [w32_of, w64_of, w8_of]) <;> first | assumption | omega | (split <;> omega) | (refine And.intro ?_ ?_ <;> split <;> omega)) | omega)) ?_
        rintro x_40 - -
        refine wp_if (fun c11 => ?_) (fun c11 => ?_)
        · try simp (disch := omega) only [w32_of, w64_of, w8_of, decide_eq_true_eq, decide_eq_false_iff_not, Bool.not_eq_true] at c11
          exact wp_some (x_inr (x_inr trivial))
        · try simp (disch := omega) only [w32_of, w64_of, w8_of, decide_eq_true_eq, decide_eq_false_iff_not, Bool.not_eq_true] at c11
          exact wp_some (x_inl ⟨(by (try dsimp only) <;> first | assumption | omega | ((try simp (disch := omega) only [w32_of, w64_of, w8_of]) <;> first | assumption | omega | (split <;> omega) | (refine And.intro ?_ ?_ <;> split <;> omega)) | omega), (by (try dsimp only) <;> first | assumption | omega | ((try simp (disch := omega) only [w32_of, w64_of, w8_of]) <;> first | assumption | omega | (split <;> omega) | (refine And.intro ?_ ?_ <;> split <;> omega)) | omega)⟩)
      · try simp (disch := omega) only [w32_of, w64_of, w8_of, decide_eq_true_eq, decide_eq_false_iff_not, Bool.not_eq_true] at c8
        exact wp_some (x_inl ⟨(by (try dsimp only) <;> first | assumption | omega | ((try simp (disch := omega) only [w32_of, w64_of, w8_of]) <;> first | assumption | omega | (split <;> omega) | (refine And.intro ?_ ?_ <;> split <;> omega)) | omega), (by (try dsimp only) <;> first | assumption | omega | ((try simp (disch := omega) only [w32_of, w64_of, w8_of]) <;> first | assumption | omega | (split <;> omega) | (refine And.intro ?_ ?_ <;> split <;> omega)) | omega)⟩)
    · try simp (disch := omega) only [w32_of, w64_of, w8_of, decide_eq_true_eq, decide_eq_false_iff_not, Bool.not_eq_true] at c2
      exact wp_some (x_inr (x_inl trivial))
  rintro k_45 -
  exact wp_some trivial
theorem s_T_addMeetings {σ : SG} {one_0 : Nat} {two_0 : Nat} (hσ : II σ) (hs_one_0 : isS one_0) (hs_two_0 : isS two_0) (w0 : σ (kE_size 223) 0 ≤ 256) : wp_ (fT_addMeetings σ one_0 two_0) (fun zz_ => II zz_ ∧ FC [(kE_placeX 223), (kE_placeY 223), kT_matrix] [] σ zz_) := by
  unfold fT_addMeetings
  have c1 := iiE_size (s := 223) hσ (by decide) 0
  refine wp_bd (P := fun rr_ => (0 ≤ rr_ ∧ rr_ ≤ 1)) ?_ ?_
  · refine wp_bd (s_T_isArea (σ := σ) (shape_0 := one_0) hσ (by first | assumption | decide | omega)) ?_
    rintro x_2 - -
    refine wp_if (fun c3 => ?_) (fun c3 => ?_)
    · try simp (disch := omega) only [w32_of, w64_of, w8_of, decide_eq_true_eq, decide_eq_false_iff_not, Bool.not_eq_true] at c3
      exact wp_some (by (try dsimp only) <;> first | assumption | omega | ((try simp (disch := omega) only [w32_of, w64_of, w8_of]) <;> first | assumption | omega | (split <;> omega) | (refine And.intro ?_ ?_ <;> split <;> omega)) | omega)
    · try simp (disch := omega) only [w32_of, w64_of, w8_of, decide_eq_true_eq, decide_eq_false_iff_not, Bool.not_eq_true] at c3
      exact wp_some (by (try dsimp only) <;> first | assumption | omega | ((try simp (disch := omega) only [w32_of, w64_of, w8_of]) <;> first | assumption | omega | (split <;> omega) | (refine And.intro ?_ ?_ <;> split <;> omega)) | omega)
  rintro x_6 _ g4
  refine wp_bd (P := fun rr_ => (0 ≤ rr_ ∧ rr_ ≤ 1)) ?_ ?_
  · refine wp_bd (s_T_isArea (σ := σ) (shape_0 := two_0) hσ (by first | assumption | decide | omega)) ?_
    rintro x_8 - -
    refine wp_if (fun c6 => ?_) (fun c6 => ?_)
    · try simp (disch := omega) only [w32_of, w64_of, w8_of, decide_eq_true_eq, decide_eq_false_iff_not, Bool.not_eq_true] at c6
      exact wp_some (by (try dsimp only) <;> first | assumption | omega | ((try simp (disch := omega) only [w32_of, w64_of, w8_of]) <;> first | assumption | omega | (split <;> omega) | (refine And.intro ?_ ?_ <;> split <;> omega)) | omega)
    · try simp (disch := omega) only [w32_of, w64_of, w8_of, decide_eq_true_eq, decide_eq_false_iff_not, Bool.not_eq_true] at c6
      exact wp_some (by (try dsimp only) <;> first | assumption | omega | ((try simp (disch := omega) only [w32_of, w64_of, w8_of]) <;> first | assumption | omega | (split <;> omega) | (refine And.intro ?_ ?_ <;> split <;> omega)) | omega)
  rintro x_12 _ g7
  refine wp_bd (P := fun rr_ => II rr_.2 ∧ FC [(kE_placeX 223), (kE_placeY 223), kT_matrix] [] σ rr_.2 ∧ (True)) ?_ ?_
  · refine wp_whl (fun ss_ => II ss_.2 ∧ FC [(kE_placeX 223), (kE_placeY 223), kT_matrix] [] σ ss_.2 ∧ (0 ≤ ss_.1 ∧ ss_.1 ≤ 256)) (fun ss_ => (257 - ss_.1).toNat) ⟨hσ, (FC_refl _ _ _), (by (try dsimp only) <;> first | assumption | omega | ((try simp (disch := omega) only [w32_of, w64_of, w8_of]) <;> first | assumption | omega | (split <;> omega) | (refine And.intro ?_ ?_ <;> split <;> omega)) | omega)⟩ ?_
    rintro ⟨i_13, σ_14⟩ y9
    try dsimp only at y9 ⊢
    obtain ⟨hσ_14, frσ_14, g8⟩ := y9
    have c11 := w32_rng i_13
    have c12 := iiE_size (s := 223) hσ_14 (by decide) 0
    have c13 := FC_at frσ_14 (c := (kE_size 223)) (by first | decide | (rcases hE with rfl | rfl | rfl <;> decide)) 0
    have c14 := w32_rng (σ_14 (kE_size 223) 0)
    refine wp_if (fun c10 => ?_) (fun c10 => ?_)
    · try simp (disch := omega) only [w32_of, w64_of, w8_of, decide_eq_true_eq, decide_eq_false_iff_not, Bool.not_eq_true] at c10
      have c15 := w32_rng ((3 * x_6) + x_12)
      refine wp_rdI (by (try dsimp only) <;> first | assumption | omega | ((try simp (disch := omega) only [w32_of, w64_of, w8_of]) <;> first | assumption | omega | (split <;> omega) | (refine And.intro ?_ ?_ <;> split <;> omega)) | omega) (by (try dsimp only) <;> first | assumption | omega | ((try simp (disch := omega) only [w32_of, w64_of, w8_of]) <;> first | assumption | omega | (split <;> omega) | (refine And.intro ?_ ?_ <;> split <;> omega)) | omega) (fun x_31 e_x_31 => ?_)
      have b_x_31 : (-1) ≤ x_31 ∧ x_31 ≤ 2 := by rw [e_x_31]; exact ii_kT_matrix hσ_14 _
      try simp (disch := omega) only [w32_of, w64_of, w8_of] at e_x_31
      have c16 := ii_kT_matrix hσ_14 ((3 * x_6) + x_12)
      have c18 := w32_rng x_31
      refine wp_if (fun c17 => ?_) (fun c17 => ?_)
      · try simp (disch := omega) only [w32_of, w64_of, w8_of, decide_eq_true_eq, decide_eq_false_iff_not, Bool.not_eq_true] at c17
        refine wp_bd (P := fun rr_ => II rr_.2 ∧ FC [(kE_placeX 223), (kE_placeY 223), kT_matrix] [] σ rr_.2 ∧ (True)) ?_ ?_
        · refine wp_whl (fun ss_ => II ss_.2 ∧ FC [(kE_placeX 223), (kE_placeY 223), kT_matrix] [] σ ss_.2 ∧ (0 ≤ ss_.1 ∧ ss_.1 ≤ 257)) (fun ss_ => (258 - ss_.1).toNat) ⟨hσ_14, frσ_14, (by (try dsimp only) <;> first | assumption | omega | ((try simp (disch := omega) only [w32_of, w64_of, w8_of]) <;> first | assumption | omega | (split <;> omega) | (refine And.intro ?_ ?_ <;> split <;> omega)) | omega)⟩ ?_
          rintro ⟨j_34, σ_35⟩ y20
          try dsimp only at y20 ⊢
          obtain ⟨hσ_35, frσ_35, g19⟩ := y20
          have c22 := w32_rng j_34
          have c23 := iiE_size (s := 223) hσ_35 (by decide) 0
          have c24 := FC_at frσ_35 (c := (kE_size 223)) (by first | decide | (rcases hE with rfl | rfl | rfl <;> decide)) 0
          have c25 := w32_rng (σ_35 (kE_size 223) 0)
          refine wp_if (fun c21 => ?_) (fun c21 => ?_)
          · try simp (disch := omega) only [w32_of, w64_of, w8_of, decide_eq_true_eq, decide_eq_false_iff_not, Bool.not_eq_true] at c21
            refine wp_rdI (by (try dsimp only) <;> first | assumption | omega | ((try simp (disch := omega) only [w32_of, w64_of, w8_of]) <;> first | assumption | omega | (split <;> omega) | (refine And.intro ?_ ?_ <;> split <;> omega)) | omega) (by (try dsimp only) <;> first | assumption | omega | ((try simp (disch := omega) only [w32_of, w64_of, w8_of]) <;> first | assumption | omega | (split <;> omega) | (refine And.intro ?_ ?_ <;> split <;> omega)) | omega) (fun x_44 e_x_44 => ?_)
            have b_x_44 : 0 ≤ x_44 ∧ x_44 ≤ 1 := by rw [e_x_44]; exact iiE_mark223 hσ_35 _
            rw [FC_at frσ_35 (c := 58368) (by first | decide | (rcases hE with rfl | rfl | rfl <;> decide))] at e_x_44
            try simp (disch := omega) only [w32_of, w64_of, w8_of] at e_x_44
            have c26 : 0 ≤ σ_35 58368 i_13 ∧ σ_35 58368 i_13 ≤ 1 := iiE_mark223 hσ_35 i_13
            have c27 := FC_at frσ_35 (c := 58368) (by first | decide | (rcases hE with rfl | rfl | rfl <;> decide)) i_13
            have c28 : 0 ≤ σ 58368 i_13 ∧ σ 58368 i_13 ≤ 1 := iiE_mark223 hσ i_13
            refine wp_rdI (by (try dsimp only) <;> first | assumption | omega | ((try simp (disch := omega) only [w32_of, w64_of, w8_of]) <;> first | assumption | omega | (split <;> omega) | (refine And.intro ?_ ?_ <;> split <;> omega)) | omega) (by (try dsimp only) <;> first | assumption | omega | ((try simp (disch := omega) only [w32_of, w64_of, w8_of]) <;> first | assumption | omega | (split <;> omega) | (refine And.intro ?_ ?_ <;> split <;> omega)) | omega) (fun x_46 e_x_46 => ?_)
            have b_x_46 : 0 ≤ x_46 ∧ x_46 ≤ 1 := by rw [e_x_46]; exact iiE_mark223 hσ_35 _
            rw [FC_at frσ_35 (c := 58368) (by first | decide | (rcases hE with rfl | rfl | rfl <;> decide))] at e_x_46
            try simp (disch := omega) only [w32_of, w64_of, w8_of] at e_x_46
            have c29 : 0 ≤ σ_35 58368 j_34 ∧ σ_35 58368 j_34 ≤ 1 := iiE_mark223 hσ_35 j_34
            have c30 := FC_at frσ_35 (c := 58368) (by first | decide | (rcases hE with rfl | rfl | rfl <;> decide)) j_34
            have c31 : 0 ≤ σ 58368 j_34 ∧ σ 58368 j_34 ≤ 1 := iiE_mark223 hσ j_34
            have c33 := w32_rng x_44
            have c34 := w32_rng x_46
            refine wp_if (fun c32 => ?_) (fun c32 => ?_)
            · try simp (disch := omega) only [w32_of, w64_of, w8_of, decide_eq_true_eq, decide_eq_false_iff_not, Bool.not_eq_true] at c32
              exact wp_some (x_inl ⟨⟨hσ_35, frσ_35, (by (try dsimp only) <;> first | assumption | omega | ((try simp (disch := omega) only [w32_of, w64_of, w8_of]) <;> first | assumption | omega | (split <;> omega) | (refine And.intro ?_ ?_ <;> split <;> omega)) | omega)⟩, (by (try dsimp only) <;> first | assumption | omega | ((try simp (disch := omega) only [w32_of, w64_of, w8_of]) <;> first | assumption | omega | (split <;> omega) | (refine And.intro ?_ ?_ <;> split <;> omega)) | omega)⟩)
            · try simp (disch := omega) only [w32_of, w64_of, w8_of, decide_eq_true_eq, decide_eq_false_iff_not, Bool.not_eq_true] at c32
              have c35 : ((gsz 223 : Nat) : Int) = 256 := by decide
              have c36 : ((gsz 223 : Nat) : Int) = 256 := by decide
              refine wp_bd (s_E_meet (σ := σ_35) (this_0 := 223) (i_0 := i_13) (j_0 := j_34) hσ_35 (by decide) (by (try dsimp only) <;> first | assumption | omega | ((try simp (disch := omega) only [w32_of, w64_of, w8_of]) <;> first | assumption | omega | (split <;> omega) | (refine And.intro ?_ ?_ <;> split <;> omega)) | omega) (by (try dsimp only) <;> first | assumption | omega | ((try simp (disch := omega) only [w32_of, w64_of, w8_of]) <;> first | assumption | omega | (split <;> omega) | (refine And.intro ?_ ?_ <;> split <;> omega)) | omega)) ?_
              rintro ⟨x_52, σ_51⟩ - y39
              try dsimp only at y39 ⊢
              obtain ⟨hσ_51, flσ_51, g37, g38⟩ := y39
              have frσ_51 : FC [(kE_placeX 223), (kE_placeY 223), kT_matrix] [] σ σ_51 := FC_tr frσ_35 flσ_51 (by first | decide | (rcases hE with rfl | rfl | rfl <;> decide)) (by first | decide | (rcases hE with rfl | rfl | rfl <;> decide)) (by simp) (by simp)
              try simp (disch := omega) only [w32_of, w64_of, w8_of] at g37
              try simp (disch := omega) only [w32_of, w64_of, w8_of] at g38
              refine wp_bd (P := fun rr_ => II rr_ ∧ FC [(kE_placeX 223), (kE_placeY 223), kT_matrix] [] σ rr_ ∧ (True)) ?_ ?_
              · have c41 := w32_rng x_52
                refine wp_if (fun c40 => ?_) (fun c40 => ?_)
                · try simp (disch := omega) only [w32_of, w64_of, w8_of, decide_eq_true_eq, decide_eq_false_iff_not, Bool.not_eq_true] at c40
                  refine wp_if (fun c42 => ?_) (fun c42 => ?_)
                  · try simp (disch := omega) only [w32_of, w64_of, w8_of, decide_eq_true_eq, decide_eq_false_iff_not, Bool.not_eq_true] at c42
                    refine wp_bd (s_T_isRimOfBoth (σ := σ_51) (i_0 := i_13) (j_0 := j_34) hσ_51 (by (try dsimp only) <;> first | assumption | omega | ((try simp (disch := omega) only [w32_of, w64_of, w8_of]) <;> first | assumption | omega | (split <;> omega) | (refine And.intro ?_ ?_ <;> split <;> omega)) | omega) (by (try dsimp only) <;> first | assumption | omega | ((try simp (disch := omega) only [w32_of, w64_of, w8_of]) <;> first | assumption | omega | (split <;> omega) | (refine And.intro ?_ ?_ <;> split <;> omega)) | omega)) ?_
                    rintro x_70 - -
                    refine wp_if (fun c44 => ?_) (fun c44 => ?_)
                    · try simp (disch := omega) only [w32_of, w64_of, w8_of, decide_eq_true_eq, decide_eq_false_iff_not, Bool.not_eq_true] at c44
                      exact wp_some ⟨hσ_51, frσ_51, (by (try dsimp only) <;> first | assumption | omega | ((try simp (disch := omega) only [w32_of, w64_of, w8_of]) <;> first | assumption | omega | (split <;> omega) | (refine And.intro ?_ ?_ <;> split <;> omega)) | omega)⟩
                    · try simp (disch := omega) only [w32_of, w64_of, w8_of, decide_eq_true_eq, decide_eq_false_iff_not, Bool.not_eq_true] at c44
                      refine wp_bd (s_T_raise (σ := σ_51) (first_0 := x_6) (second_0 := x_12) (dimension_0 := 0) hσ_51 (by (try dsimp only) <;> first | assumption | omega | ((try simp (disch := omega) only [w32_of, w64_of, w8_of]) <;> first | assumption | omega | (split <;> omega) | (refine And.intro ?_ ?_ <;> split <;> omega)) | omega) (by (try dsimp only) <;> first | assumption | omega | ((try simp (disch := omega) only [w32_of, w64_of, w8_of]) <;> first | assumption | omega | (split <;> omega) | (refine And.intro ?_ ?_ <;> split <;> omega)) | omega) (by (try dsimp only) <;> first | assumption | omega | ((try simp (disch := omega) only [w32_of, w64_of, w8_of]) <;> first | assumption | omega | (split <;> omega) | (refine And.intro ?_ ?_ <;> split <;> omega)) | omega)) ?_
                      rintro σ_74 - ⟨hσ_74, flσ_74⟩
                      have frσ_74 : FC [(kE_placeX 223), (kE_placeY 223), kT_matrix] [] σ σ_74 := FC_tr frσ_51 flσ_74 (by first | decide | (rcases hE with rfl | rfl | rfl <;> decide)) (by first | decide | (rcases hE with rfl | rfl | rfl <;> decide)) (by simp) (by simp)
                      exact wp_some ⟨hσ_74, frσ_74, (by (try dsimp only) <;> first | assumption | omega | ((try simp (disch := omega) only [w32_of, w64_of, w8_of]) <;> first | assumption | omega | (split <;> omega) | (refine And.intro ?_ ?_ <;> split <;> omega)) | omega)⟩
                  · try simp (disch := omega) only [w32_of, w64_of, w8_of, decide_eq_true_eq, decide_eq_false_iff_not, Bool.not_eq_true] at c42
                    exact wp_some ⟨hσ_51, frσ_51, (by (try dsimp only) <;> first | assumption | omega | ((try simp (disch := omega) only [w32_of, w64_of, w8_of]) <;> first | assumption | omega | (split <;> omega) | (refine And.intro ?_ ?_ <;> split <;> omega)) | omega)⟩
                · try simp (disch := omega) only [w32_of, w64_of, w8_of, decide_eq_true_eq, decide_eq_false_iff_not, Bool.not_eq_true] at c40
                  exact wp_some ⟨hσ_51, frσ_51, (by (try dsimp only) <;> first | assumption | omega | ((try simp (disch := omega) only [w32_of, w64_of, w8_of]) <;> first | assumption | omega | (split <;> omega) | (refine And.intro ?_ ?_ <;> split <;> omega)) | omega)⟩
              rintro σ_78 _ ⟨hσ_78, frσ_78, g45⟩
              exact wp_some (x_inl ⟨⟨hσ_78, frσ_78, (by (try dsimp only) <;> first | assumption | omega | ((try simp (disch := omega) only [w32_of, w64_of, w8_of]) <;> first | assumption | omega | (split <;> omega) | (refine And.intro ?_ ?_ <;> split <;> omega)) | omega)⟩, (by (try dsimp only) <;> first | assumption | omega | ((try simp (disch := omega) only [w32_of, w64_of, w8_of]) <;> first | assumption | omega | (split <;> omega) | (refine And.intro ?_ ?_ <;> split <;> omega)) | omega)⟩)
          · try simp (disch := omega) only [w32_of, w64_of, w8_of, decide_eq_true_eq, decide_eq_false_iff_not, Bool.not_eq_true] at c21
            exact wp_some (x_inr ⟨hσ_35, frσ_35, (by (try dsimp only) <;> first | assumption | omega | ((try simp (disch := omega) only [w32_of, w64_of, w8_of]) <;> first | assumption | omega | (split <;> omega) | (refine And.intro ?_ ?_ <;> split <;> omega)) | omega)⟩)
        rintro ⟨j_82, σ_83⟩ _ y47
        try dsimp only at y47 ⊢
        obtain ⟨hσ_83, frσ_83, g46⟩ := y47
        exact wp_some (x_inl ⟨⟨hσ_83, frσ_83, (by (try dsimp only) <;> first | assumption | omega | ((try simp (disch := omega) only [w32_of, w64_of, w8_of]) <;> first | assumption | omega | (split <;> omega) | (refine And.intro ?_ ?_ <;> split <;> omega)) | omega)⟩, (by (try dsimp only) <;> first | assumption | omega | ((try simp (disch := omega) only [w32_of, w64_of, w8_of]) <;> first | assumption | omega | (split <;> omega) | (refine And.intro ?_ ?_ <;> split <;> omega)) | omega)⟩)
      · try simp (disch := omega) only [w32_of, w64_of, w8_of, decide_eq_true_eq, decide_eq_false_iff_not, Bool.not_eq_true] at c17
        exact wp_some (x_inr ⟨hσ_14, frσ_14, (by (try dsimp only) <;> first | assumption | omega | ((try simp (disch := omega) only [w32_of, w64_of, w8_of]) <;> first | assumption | omega | (split <;> omega) | (refine And.intro ?_ ?_ <;> split <;> omega)) | omega)⟩)
    · try simp (disch := omega) only [w32_of, w64_of, w8_of, decide_eq_true_eq, decide_eq_false_iff_not, Bool.not_eq_true] at c10
      exact wp_some (x_inr ⟨hσ_14, frσ_14, (by (try dsimp only) <;> first | assumption | omega | ((try simp (disch := omega) only [w32_of, w64_of, w8_of]) <;> first | assumption | omega | (split <;> omega) | (refine And.intro ?_ ?_ <;> split <;> omega)) | omega)⟩)
  rintro ⟨i_88, σ_89⟩ _ y49
  try dsimp only at y49 ⊢
  obtain ⟨hσ_89, frσ_89, g48⟩ := y49
  exact wp_some ⟨hσ_89, frσ_89⟩
theorem s_T_hasPoint {σ : SG} {shape_0 : Nat} {x_0 : Int} {y_0 : Int} (hσ : II σ) (hs_shape_0 : isS shape_0) : wp_ (fT_hasPoint σ shape_0 x_0 y_0) (fun zz_ => True) := by
  unfold fT_hasPoint
  refine wp_bx (P := fun rr_ => (0 ≤ rr_ ∧ rr_ ≤ 2048)) ?_ ?_
  · refine wp_whl (fun ss_ => (0 ≤ ss_ ∧ ss_ ≤ 2048)) (fun ss_ => (2049 - ss_).toNat) (by (try dsimp only) <;> first | assumption | omega | ((try simp (disch := omega) only [w32_of, w64_of, w8_of]) <;> first | assumption | omega | (split <;> omega) | (refine And.intro ?_ ?_ <;> split <;> omega)) | omega) ?_
    rintro i_1 g1
    have c3 := w32_rng i_1
    have c4 := iiA_points (s := shape_0) hσ (by first | assumption | decide | omega) 0
    have c5 := w32_rng (σ (kA_points shape_0) 0)
    refine wp_if (fun c2 => ?_) (fun c2 => ?_)
    · try simp (disch := omega) only [w32_of, w64_of, w8_of, decide_eq_true_eq, decide_eq_false_iff_not, Bool.not_eq_true] at c2
      refine wp_bd (s_A_isAt (σ := σ) (this_0 := shape_0) (i_0 := i_1) (px_0 := x_0) (py_0 := y_0) hσ (by first | assumption | decide | omega) (by (try dsimp only) <;> first | assumption | omega | ((try simp (disch := omega) only [w32_of, w64_of, w8_of]) <;> first | assumption | omega | (split <;> omega) | (refine And.intro ?_ ?_ <;> split <;> omega)) | omega)) ?_
      rintro x_11 - g6
      have c7 := iiA_x (s := shape_0) hσ (by first | assumption | decide | omega) i_1
      have c8 := iiA_y (s := shape_0) hσ (by first | assumption | decide | omega) i_1
      try simp (disch := omega) only [w32_of, w64_of, w8_of] at g6
      refine wp_if (fun c9 => ?_) (fun c9 => ?_)
      · have k10 := g6.mp c9
        try simp (disch := omega) only [w32_of, w64_of, w8_of] at k10
        try simp (disch := omega) only [w32_of, w64_of, w8_of, decide_eq_true_eq, decide_eq_false_iff_not, Bool.not_eq_true] at c9
        exact wp_some (x_inr (x_inr trivial))
      · have k11 := fun q => c9 (g6.mpr q)
        try simp (disch := omega) only [w32_of, w64_of, w8_of] at k11
        try simp (disch := omega) only [w32_of, w64_of, w8_of, decide_eq_true_eq, decide_eq_false_iff_not, Bool.not_eq_true] at c9
        exact wp_some (x_inl ⟨(by (try dsimp only) <;> first | assumption | omega | ((try simp (disch := omega) only [w32_of, w64_of, w8_of]) <;> first | assumption | omega | (split <;> omega) | (refine And.intro ?_ ?_ <;> split <;> omega)) | omega), (by (try dsimp only) <;> first | assumption | omega | ((try simp (disch := omega) only [w32_of, w64_of, w8_of]) <;> first | assumption | omega | (split <;> omega) | (refine And.intro ?_ ?_ <;> split <;> omega)) | omega)⟩)
    · try simp (disch := omega) only [w32_of, w64_of, w8_of, decide_eq_true_eq, decide_eq_false_iff_not, Bool.not_eq_true] at c2
      exact wp_some (x_inr (x_inl (by (try dsimp only) <;> first | assumption | omega | ((try simp (disch := omega) only [w32_of, w64_of, w8_of]) <;> first | assumption | omega | (split <;> omega) | (refine And.intro ?_ ?_ <;> split <;> omega)) | omega)))
  rintro i_15 g12
  exact wp_some trivial
theorem s_T_whereIs {σ : SG} {shape_0 : Nat} {x_0 : Int} {y_0 : Int} (hσ : II σ) (hs_shape_0 : isS shape_0) (w0 : SHa σ shape_0) : wp_ (fT_whereIs σ shape_0 x_0 y_0) (fun zz_ => (0 ≤ zz_ ∧ zz_ ≤ 2)) := by
  unfold fT_whereIs
  have hpl := iiA_plans hσ hs_shape_0 0
  have hpt := iiA_points hσ hs_shape_0 0
  refine wp_bd (s_T_isOfPoints (σ := σ) (shape_0 := shape_0) hσ (by first | assumption | decide | omega)) ?_
  rintro x_2 - -
  refine wp_if (fun c2 => ?_) (fun c2 => ?_)
  · try simp (disch := omega) only [w32_of, w64_of, w8_of, decide_eq_true_eq, decide_eq_false_iff_not, Bool.not_eq_true] at c2
    refine wp_bd (P := fun rr_ => (0 ≤ rr_ ∧ rr_ ≤ 2)) ?_ ?_
    · refine wp_bd (s_T_hasPoint (σ := σ) (shape_0 := shape_0) (x_0 := x_0) (y_0 := y_0) hσ (by first | assumption | decide | omega)) ?_
      rintro x_5 - -
      refine wp_if (fun c4 => ?_) (fun c4 => ?_)
      · try simp (disch := omega) only [w32_of, w64_of, w8_of, decide_eq_true_eq, decide_eq_false_iff_not, Bool.not_eq_true] at c4
        exact wp_some (by (try dsimp only) <;> first | assumption | omega | ((try simp (disch := omega) only [w32_of, w64_of, w8_of]) <;> first | assumption | omega | (split <;> omega) | (refine And.intro ?_ ?_ <;> split <;> omega)) | omega)
      · try simp (disch := omega) only [w32_of, w64_of, w8_of, decide_eq_true_eq, decide_eq_false_iff_not, Bool.not_eq_true] at c4
        exact wp_some (by (try dsimp only) <;> first | assumption | omega | ((try simp (disch := omega) only [w32_of, w64_of, w8_of]) <;> first | assumption | omega | (split <;> omega) | (refine And.intro ?_ ?_ <;> split <;> omega)) | omega)
    rintro x_9 _ g5
    exact wp_some (by (try dsimp only) <;> first | assumption | omega | ((try simp (disch := omega) only [w32_of, w64_of, w8_of]) <;> first | assumption | omega | (split <;> omega) | (refine And.intro ?_ ?_ <;> split <;> omega)) | omega)
  · try simp (disch := omega) only [w32_of, w64_of, w8_of, decide_eq_true_eq, decide_eq_false_iff_not, Bool.not_eq_true] at c2
    refine wp_bd (s_T_isArea (σ := σ) (shape_0 := shape_0) hσ (by first | assumption | decide | omega)) ?_
    rintro x_15 - -
    refine wp_bd (P := fun rr_ => (True)) ?_ ?_
    · refine wp_whl (fun ss_ => (FLa σ shape_0 ss_.2.2.2.2 ss_.2.2.2.1)) (fun ss_ => (2048 - ss_.2.2.2.2).toNat) (by (try dsimp only) <;> (first | assumption | exact FLa_0 w0 | (rw [hbh, hfe]; exact hn))) ?_
      rintro ⟨ends_16, held_17, odd_18, from_19, at_20⟩ y7
      try dsimp only at y7 ⊢
      have gw := y7
      have hle := FLa_le gw
      have c9 := w32_rng (at_20 + 1)
      have c10 := iiA_plans (s := shape_0) hσ (by first | assumption | decide | omega) 0
      have c11 := w32_rng (σ (kA_plans shape_0) 0)
      refine wp_if (fun c8 => ?_) (fun c8 => ?_)
      · try simp (disch := omega) only [w32_of, w64_of, w8_of, decide_eq_true_eq, decide_eq_false_iff_not, Bool.not_eq_true] at c8
        obtain ⟨he, hn, h2, h3, h4, h5, h6⟩ := FLa_hd hσ hs_shape_0 gw (by omega)
        obtain ⟨ho, -, -, -⟩ := id he
        have hRe := rS_end ho
        refine wp_bd (P := fun rr_ => (rr_.2.2.2.1 = from_19 + eP (σ (kA_plan shape_0)) at_20)) ?_ ?_
        · refine wp_whl (fun ss_ => (0 ≤ ss_.2.2.2.2 ∧ ss_.2.2.2.2 ≤ rN (σ (kA_plan shape_0)) at_20) ∧ (ss_.2.2.2.1 = from_19 + rS (σ (kA_plan shape_0)) at_20 ss_.2.2.2.2)) (fun ss_ => (rN (σ (kA_plan shape_0)) at_20 - ss_.2.2.2.2).toNat) ⟨(by (try dsimp only) <;> first | assumption | omega | ((try simp (disch := omega) only [w32_of, w64_of, w8_of]) <;> first | assumption | omega | (split <;> omega) | (refine And.intro ?_ ?_ <;> split <;> omega)) | omega), (by (try dsimp only) <;> (first | (rw [rS_0]; omega) | omega))⟩ ?_
          rintro ⟨ends_29, held_30, odd_31, from_32, row_33⟩ y13
          try dsimp only at y13 ⊢
          obtain ⟨g12, hfr⟩ := y13
          refine wp_bd (s_A_rows (σ := σ) (this_0 := shape_0) (at_0 := at_20) hσ (by first | assumption | decide | omega) he) ?_
          rintro x_42 - ⟨g14, g15⟩
          try simp (disch := omega) only [w32_of, w64_of, w8_of] at g14
          try simp (disch := omega) only [w32_of, w64_of, w8_of] at g15
          have c17 := w32_rng row_33
          have c18 := w32_rng x_42
          refine wp_if (fun c16 => ?_) (fun c16 => ?_)
          · try simp (disch := omega) only [w32_of, w64_of, w8_of, decide_eq_true_eq, decide_eq_false_iff_not, Bool.not_eq_true] at c16
            have hg := rS_go ho (show 0 ≤ row_33 by omega) (by omega)
            refine wp_bd (s_A_rowLength (σ := σ) (this_0 := shape_0) (at_0 := at_20) (row_0 := row_33) hσ (by first | assumption | decide | omega) he (by (try dsimp only) <;> first | assumption | omega | ((try simp (disch := omega) only [w32_of, w64_of, w8_of]) <;> first | assumption | omega | (split <;> omega) | (refine And.intro ?_ ?_ <;> split <;> omega)) | omega)) ?_
            rintro x_45 - ⟨g19, g20⟩
            try simp (disch := omega) only [w32_of, w64_of, w8_of] at g19
            try simp (disch := omega) only [w32_of, w64_of, w8_of] at g20
            refine wp_bd (P := fun rr_ => True) ?_ ?_
            · have c22 := w32_rng from_32
              have c23 := w32_rng (from_32 + x_45)
              refine wp_if (fun c21 => ?_) (fun c21 => ?_)
              · try simp (disch := omega) only [w32_of, w64_of, w8_of, decide_eq_true_eq, decide_eq_false_iff_not, Bool.not_eq_true] at c21
                refine wp_bd (s_A_isAt (σ := σ) (this_0 := shape_0) (i_0 := from_32) (px_0 := x_0) (py_0 := y_0) hσ (by first | assumption | decide | omega) (by (try dsimp only) <;> first | assumption | omega | ((try simp (disch := omega) only [w32_of, w64_of, w8_of]) <;> first | assumption | omega | (split <;> omega) | (refine And.intro ?_ ?_ <;> split <;> omega)) | omega)) ?_
                rintro x_62 - g24
                have c25 := iiA_x (s := shape_0) hσ (by first | assumption | decide | omega) from_32
                have c26 := iiA_y (s := shape_0) hσ (by first | assumption | decide | omega) from_32
                try simp (disch := omega) only [w32_of, w64_of, w8_of] at g24
                refine wp_bd (s_A_isAt (σ := σ) (this_0 := shape_0) (i_0 := ((from_32 + x_45) - 1)) (px_0 := x_0) (py_0 := y_0) hσ (by first | assumption | decide | omega) (by (try dsimp only) <;> first | assumption | omega | ((try simp (disch := omega) only [w32_of, w64_of, w8_of]) <;> first | assumption | omega | (split <;> omega) | (refine And.intro ?_ ?_ <;> split <;> omega)) | omega)) ?_
                rintro x_64 - g27
                have c28 := iiA_x (s := shape_0) hσ (by first | assumption | decide | omega) ((from_32 + x_45) - 1)
                have c29 := iiA_y (s := shape_0) hσ (by first | assumption | decide | omega) ((from_32 + x_45) - 1)
                try simp (disch := omega) only [w32_of, w64_of, w8_of] at g27
                refine wp_if (fun c30 => ?_) (fun c30 => ?_)
                · try simp (disch := omega) only [w32_of, w64_of, w8_of, decide_eq_true_eq, decide_eq_false_iff_not, Bool.not_eq_true] at c30
                  exact wp_some trivial
                · try simp (disch := omega) only [w32_of, w64_of, w8_of, decide_eq_true_eq, decide_eq_false_iff_not, Bool.not_eq_true] at c30
                  exact wp_some trivial
              · try simp (disch := omega) only [w32_of, w64_of, w8_of, decide_eq_true_eq, decide_eq_false_iff_not, Bool.not_eq_true] at c21
                exact wp_some trivial
            rintro ends_71 _ -
            refine wp_bd (P := fun rr_ => (True)) ?_ ?_
            · refine wp_whl (fun ss_ => (from_32 ≤ ss_.2.2 ∧ ss_.2.2 ≤ from_32 + x_45)) (fun ss_ => (from_32 + x_45 - ss_.2.2).toNat) (by (try dsimp only) <;> first | assumption | omega | ((try simp (disch := omega) only [w32_of, w64_of, w8_of]) <;> first | assumption | omega | (split <;> omega) | (refine And.intro ?_ ?_ <;> split <;> omega)) | omega) ?_
              rintro ⟨held_72, odd_73, i_74⟩ y32
              try dsimp only at y32 ⊢
              have g31 := y32
              have c34 := w32_rng i_74
              have c35 := w32_rng (from_32 + x_45)
              refine wp_if (fun c33 => ?_) (fun c33 => ?_)
              · try simp (disch := omega) only [w32_of, w64_of, w8_of, decide_eq_true_eq, decide_eq_false_iff_not, Bool.not_eq_true] at c33
                have c36 := w32_rng (i_74 + 1)
                refine wp_lt (fun x_84 e_x_84 => ?_)
                try simp (disch := omega) only [w32_of, w64_of, w8_of] at e_x_84
                refine wp_bd (P := fun rr_ => True) ?_ ?_
                · refine wp_bd (s_A_areLike (σ := σ) (this_0 := shape_0) (i_0 := i_74) (j_0 := x_84) hσ (by first | assumption | decide | omega) (by (try dsimp only) <;> first | assumption | omega | ((try simp (disch := omega) only [w32_of, w64_of, w8_of]) <;> first | assumption | omega | (split <;> omega) | (refine And.intro ?_ ?_ <;> split <;> omega)) | omega) (by (try dsimp only) <;> first | assumption | omega | ((try simp (disch := omega) only [w32_of, w64_of, w8_of]) <;> first | assumption | omega | (split <;> omega) | (refine And.intro ?_ ?_ <;> split <;> omega)) | omega)) ?_
                  rintro x_133 - g37
                  have c38 := iiA_x (s := shape_0) hσ (by first | assumption | decide | omega) i_74
                  have c39 := iiA_x (s := shape_0) hσ (by first | assumption | decide | omega) x_84
                  have c40 := iiA_y (s := shape_0) hσ (by first | assumption | decide | omega) i_74
                  have c41 := iiA_y (s := shape_0) hσ (by first | assumption | decide | omega) x_84
                  try simp (disch := omega) only [w32_of, w64_of, w8_of] at g37
                  refine wp_if (fun c42 => ?_) (fun c42 => ?_)
                  · have k43 := g37.mp c42
                    try simp (disch := omega) only [w32_of, w64_of, w8_of] at k43
                    try simp (disch := omega) only [w32_of, w64_of, w8_of, decide_eq_true_eq, decide_eq_false_iff_not, Bool.not_eq_true] at c42
                    exact wp_some trivial
                  · have k44 := fun q => c42 (g37.mpr q)
                    try simp (disch := omega) only [w32_of, w64_of, w8_of] at k44
                    try simp (disch := omega) only [w32_of, w64_of, w8_of, decide_eq_true_eq, decide_eq_false_iff_not, Bool.not_eq_true] at c42
                    have c46 := w32_rng x_84
                    have c47 := w32_rng from_32
                    refine wp_if (fun c45 => ?_) (fun c45 => ?_)
                    · try simp (disch := omega) only [w32_of, w64_of, w8_of, decide_eq_true_eq, decide_eq_false_iff_not, Bool.not_eq_true] at c45
                      refine wp_if (fun c48 => ?_) (fun c48 => ?_)
                      · try simp (disch := omega) only [w32_of, w64_of, w8_of, decide_eq_true_eq, decide_eq_false_iff_not, Bool.not_eq_true] at c48
                        exact wp_some trivial
                      · try simp (disch := omega) only [w32_of, w64_of, w8_of, decide_eq_true_eq, decide_eq_false_iff_not, Bool.not_eq_true] at c48
                        exact wp_some trivial
                    · try simp (disch := omega) only [w32_of, w64_of, w8_of, decide_eq_true_eq, decide_eq_false_iff_not, Bool.not_eq_true] at c45
                      exact wp_some trivial
                rintro b_141 _ -
                refine wp_if (fun c49 => ?_) (fun c49 => ?_)
                · try simp (disch := omega) only [w32_of, w64_of, w8_of, decide_eq_true_eq, decide_eq_false_iff_not, Bool.not_eq_true] at c49
                  exact wp_some (x_inl ⟨(by (try dsimp only) <;> first | assumption | omega | ((try simp (disch := omega) only [w32_of, w64_of, w8_of]) <;> first | assumption | omega | (split <;> omega) | (refine And.intro ?_ ?_ <;> split <;> omega)) | omega), (by (try dsimp only) <;> first | assumption | omega | ((try simp (disch := omega) only [w32_of, w64_of, w8_of]) <;> first | assumption | omega | (split <;> omega) | (refine And.intro ?_ ?_ <;> split <;> omega)) | omega)⟩)
                · try simp (disch := omega) only [w32_of, w64_of, w8_of, decide_eq_true_eq, decide_eq_false_iff_not, Bool.not_eq_true] at c49
                  refine wp_bd (P := fun rr_ => True) ?_ ?_
                  · refine wp_rdI (by (try dsimp only) <;> first | assumption | omega | ((try simp (disch := omega) only [w32_of, w64_of, w8_of]) <;> first | assumption | omega | (split <;> omega) | (refine And.intro ?_ ?_ <;> split <;> omega)) | omega) (by (try dsimp only) <;> first | assumption | omega | ((try simp (disch := omega) only [w32_of, w64_of, w8_of]) <;> first | assumption | omega | (split <;> omega) | (refine And.intro ?_ ?_ <;> split <;> omega)) | omega) (fun x_147 e_x_147 => ?_)
                    have b_x_147 : (-1000000000) ≤ x_147 ∧ x_147 ≤ 1000000000 := by rw [e_x_147]; exact iiA_x (s := shape_0) hσ (by first | assumption | decide | omega) _
                    try simp (disch := omega) only [w32_of, w64_of, w8_of] at e_x_147
                    have c50 := iiA_x (s := shape_0) hσ (by first | assumption | decide | omega) i_74
                    refine wp_rdI (by (try dsimp only) <;> first | assumption | omega | ((try simp (disch := omega) only [w32_of, w64_of, w8_of]) <;> first | assumption | omega | (split <;> omega) | (refine And.intro ?_ ?_ <;> split <;> omega)) | omega) (by (try dsimp only) <;> first | assumption | omega | ((try simp (disch := omega) only [w32_of, w64_of, w8_of]) <;> first | assumption | omega | (split <;> omega) | (refine And.intro ?_ ?_ <;> split <;> omega)) | omega) (fun x_149 e_x_149 => ?_)
                    have b_x_149 : (-1000000000) ≤ x_149 ∧ x_149 ≤ 1000000000 := by rw [e_x_149]; exact iiA_y (s := shape_0) hσ (by first | assumption | decide | omega) _
                    try simp (disch := omega) only [w32_of, w64_of, w8_of] at e_x_149
                    have c51 := iiA_y (s := shape_0) hσ (by first | assumption | decide | omega) i_74
                    have c52 := w32_rng x_84
                    refine wp_rdI (by (try dsimp only) <;> first | assumption | omega | ((try simp (disch := omega) only [w32_of, w64_of, w8_of]) <;> first | assumption | omega | (split <;> omega) | (refine And.intro ?_ ?_ <;> split <;> omega)) | omega) (by (try dsimp only) <;> first | assumption | omega | ((try simp (disch := omega) only [w32_of, w64_of, w8_of]) <;> first | assumption | omega | (split <;> omega) | (refine And.intro ?_ ?_ <;> split <;> omega)) | omega) (fun x_151 e_x_151 => ?_)
                    have b_x_151 : (-1000000000) ≤ x_151 ∧ x_151 ≤ 1000000000 := by rw [e_x_151]; exact iiA_x (s := shape_0) hσ (by first | assumption | decide | omega) _
                    try simp (disch := omega) only [w32_of, w64_of, w8_of] at e_x_151
                    have c53 := iiA_x (s := shape_0) hσ (by first | assumption | decide | omega) x_84
                    refine wp_rdI (by (try dsimp only) <;> first | assumption | omega | ((try simp (disch := omega) only [w32_of, w64_of, w8_of]) <;> first | assumption | omega | (split <;> omega) | (refine And.intro ?_ ?_ <;> split <;> omega)) | omega) (by (try dsimp only) <;> first | assumption | omega | ((try simp (disch := omega) only [w32_of, w64_of, w8_of]) <;> first | assumption | omega | (split <;> omega) | (refine And.intro ?_ ?_ <;> split <;> omega)) | omega) (fun x_153 e_x_153 => ?_)
                    have b_x_153 : (-1000000000) ≤ x_153 ∧ x_153 ≤ 1000000000 := by rw [e_x_153]; exact iiA_y (s := shape_0) hσ (by first | assumption | decide | omega) _
                    try simp (disch := omega) only [w32_of, w64_of, w8_of] at e_x_153
                    have c54 := iiA_y (s := shape_0) hσ (by first | assumption | decide | omega) x_84
                    refine wp_if (fun c55 => ?_) (fun c55 => ?_)
                    · try simp (disch := omega) only [w32_of, w64_of, w8_of, decide_eq_true_eq, decide_eq_false_iff_not, Bool.not_eq_true, fQ_isOnSegment] at c55
                      exact wp_some trivial
                    · try simp (disch := omega) only [w32_of, w64_of, w8_of, decide_eq_true_eq, decide_eq_false_iff_not, Bool.not_eq_true, fQ_isOnSegment] at c55
                      exact wp_some trivial
                  rintro held_158 _ -
                  refine wp_bd (P := fun rr_ => True) ?_ ?_
                  · refine wp_rdI (by (try dsimp only) <;> first | assumption | omega | ((try simp (disch := omega) only [w32_of, w64_of, w8_of]) <;> first | assumption | omega | (split <;> omega) | (refine And.intro ?_ ?_ <;> split <;> omega)) | omega) (by (try dsimp only) <;> first | assumption | omega | ((try simp (disch := omega) only [w32_of, w64_of, w8_of]) <;> first | assumption | omega | (split <;> omega) | (refine And.intro ?_ ?_ <;> split <;> omega)) | omega) (fun x_163 e_x_163 => ?_)
                    have b_x_163 : (-1000000000) ≤ x_163 ∧ x_163 ≤ 1000000000 := by rw [e_x_163]; exact iiA_x (s := shape_0) hσ (by first | assumption | decide | omega) _
                    try simp (disch := omega) only [w32_of, w64_of, w8_of] at e_x_163
                    have c56 := iiA_x (s := shape_0) hσ (by first | assumption | decide | omega) i_74
                    refine wp_rdI (by (try dsimp only) <;> first | assumption | omega | ((try simp (disch := omega) only [w32_of, w64_of, w8_of]) <;> first | assumption | omega | (split <;> omega) | (refine And.intro ?_ ?_ <;> split <;> omega)) | omega) (by (try dsimp only) <;> first | assumption | omega | ((try simp (disch := omega) only [w32_of, w64_of, w8_of]) <;> first | assumption | omega | (split <;> omega) | (refine And.intro ?_ ?_ <;> split <;> omega)) | omega) (fun x_165 e_x_165 => ?_)
                    have b_x_165 : (-1000000000) ≤ x_165 ∧ x_165 ≤ 1000000000 := by rw [e_x_165]; exact iiA_y (s := shape_0) hσ (by first | assumption | decide | omega) _
                    try simp (disch := omega) only [w32_of, w64_of, w8_of] at e_x_165
                    have c57 := iiA_y (s := shape_0) hσ (by first | assumption | decide | omega) i_74
                    have c58 := w32_rng x_84
                    refine wp_rdI (by (try dsimp only) <;> first | assumption | omega | ((try simp (disch := omega) only [w32_of, w64_of, w8_of]) <;> first | assumption | omega | (split <;> omega) | (refine And.intro ?_ ?_ <;> split <;> omega)) | omega) (by (try dsimp only) <;> first | assumption | omega | ((try simp (disch := omega) only [w32_of, w64_of, w8_of]) <;> first | assumption | omega | (split <;> omega) | (refine And.intro ?_ ?_ <;> split <;> omega)) | omega) (fun x_167 e_x_167 => ?_)
                    have b_x_167 : (-1000000000) ≤ x_167 ∧ x_167 ≤ 1000000000 := by rw [e_x_167]; exact iiA_x (s := shape_0) hσ (by first | assumption | decide | omega) _
                    try simp (disch := omega) only [w32_of, w64_of, w8_of] at e_x_167
                    have c59 := iiA_x (s := shape_0) hσ (by first | assumption | decide | omega) x_84
                    refine wp_rdI (by (try dsimp only) <;> first | assumption | omega | ((try simp (disch := omega) only [w32_of, w64_of, w8_of]) <;> first | assumption | omega | (split <;> omega) | (refine And.intro ?_ ?_ <;> split <;> omega)) | omega) (by (try dsimp only) <;> first | assumption | omega | ((try simp (disch := omega) only [w32_of, w64_of, w8_of]) <;> first | assumption | omega | (split <;> omega) | (refine And.intro ?_ ?_ <;> split <;> omega)) | omega) (fun x_169 e_x_169 => ?_)
                    have b_x_169 : (-1000000000) ≤ x_169 ∧ x_169 ≤ 1000000000 := by rw [e_x_169]; exact iiA_y (s := shape_0) hσ (by first | assumption | decide | omega) _
                    try simp (disch := omega) only [w32_of, w64_of, w8_of] at e_x_169
                    have c60 := iiA_y (s := shape_0) hσ (by first | assumption | decide | omega) x_84
                    refine wp_if (fun c61 => ?_) (fun c61 => ?_)
                    · try simp (disch := omega) only [w32_of, w64_of, w8_of, decide_eq_true_eq, decide_eq_false_iff_not, Bool.not_eq_true, fQ_isCrossedFrom] at c61
                      exact wp_some trivial
                    · try simp (disch := omega) only [w32_of, w64_of, w8_of, decide_eq_true_eq, decide_eq_false_iff_not, Bool.not_eq_true, fQ_isCrossedFrom] at c61
                      exact wp_some trivial
                  rintro odd_176 _ -
                  exact wp_some (x_inl ⟨(by (try dsimp only) <;> first | assumption | omega | ((try simp (disch := omega) only [w32_of, w64_of, w8_of]) <;> first | assumption | omega | (split <;> omega) | (refine And.intro ?_ ?_ <;> split <;> omega)) | omega), (by (try dsimp only) <;> first | assumption | omega | ((try simp (disch := omega) only [w32_of, w64_of, w8_of]) <;> first | assumption | omega | (split <;> omega) | (refine And.intro ?_ ?_ <;> split <;> omega)) | omega)⟩)
              · try simp (disch := omega) only [w32_of, w64_of, w8_of, decide_eq_true_eq, decide_eq_false_iff_not, Bool.not_eq_true] at c33
                exact wp_some (x_inr (by (try dsimp only) <;> first | assumption | omega | ((try simp (disch := omega) only [w32_of, w64_of, w8_of]) <;> first | assumption | omega | (split <;> omega) | (refine And.intro ?_ ?_ <;> split <;> omega)) | omega))
            rintro ⟨held_187, odd_188, i_189⟩ _ y63
            try dsimp only at y63 ⊢
            have g62 := y63
            exact wp_some (x_inl ⟨⟨(by (try dsimp only) <;> first | assumption | omega | ((try simp (disch := omega) only [w32_of, w64_of, w8_of]) <;> first | assumption | omega | (split <;> omega) | (refine And.intro ?_ ?_ <;> split <;> omega)) | omega), (by (try dsimp only) <;> (first | (rw [rS_0]; omega) | omega))⟩, (by (try dsimp only) <;> first | assumption | omega | ((try simp (disch := omega) only [w32_of, w64_of, w8_of]) <;> first | assumption | omega | (split <;> omega) | (refine And.intro ?_ ?_ <;> split <;> omega)) | omega)⟩)
          · try simp (disch := omega) only [w32_of, w64_of, w8_of, decide_eq_true_eq, decide_eq_false_iff_not, Bool.not_eq_true] at c16
            have hz : row_33 = rN (σ (kA_plan shape_0)) at_20 := by omega
            rw [hz, hRe.1] at hfr
            exact wp_some (x_inr (by (try dsimp only) <;> (omega)))
        rintro ⟨ends_194, held_195, odd_196, from_197, row_198⟩ _ y64
        try dsimp only at y64 ⊢
        have hfe := y64
        refine wp_bd (s_A_behind (σ := σ) (this_0 := shape_0) (at_0 := at_20) hσ (by first | assumption | decide | omega) he) ?_
        rintro x_200 - hbh
        try simp (disch := omega) only [w32_of, w64_of, w8_of] at hbh
        exact wp_some (x_inl ⟨(by (try dsimp only) <;> (first | assumption | exact FLa_0 w0 | (rw [hbh, hfe]; exact hn))), (by (try dsimp only) <;> first | assumption | omega | ((try simp (disch := omega) only [w32_of, w64_of, w8_of]) <;> first | assumption | omega | (split <;> omega) | (refine And.intro ?_ ?_ <;> split <;> omega)) | omega)⟩)
      · try simp (disch := omega) only [w32_of, w64_of, w8_of, decide_eq_true_eq, decide_eq_false_iff_not, Bool.not_eq_true] at c8
        exact wp_some (x_inr (by (try dsimp only) <;> first | assumption | omega | ((try simp (disch := omega) only [w32_of, w64_of, w8_of]) <;> first | assumption | omega | (split <;> omega) | (refine And.intro ?_ ?_ <;> split <;> omega)) | omega))
    rintro ⟨ends_204, held_205, odd_206, from_207, at_208⟩ _ y66
    try dsimp only at y66 ⊢
    have g65 := y66
    refine wp_if (fun c67 => ?_) (fun c67 => ?_)
    · try simp (disch := omega) only [w32_of, w64_of, w8_of, decide_eq_true_eq, decide_eq_false_iff_not, Bool.not_eq_true] at c67
      exact wp_some (by (try dsimp only) <;> first | assumption | omega | ((try simp (disch := omega) only [w32_of, w64_of, w8_of]) <;> first | assumption | omega | (split <;> omega) | (refine And.intro ?_ ?_ <;> split <;> omega)) | omega)
    · try simp (disch := omega) only [w32_of, w64_of, w8_of, decide_eq_true_eq, decide_eq_false_iff_not, Bool.not_eq_true] at c67
      exact wp_some (by (try dsimp only) <;> first | assumption | omega | ((try simp (disch := omega) only [w32_of, w64_of, w8_of]) <;> first | assumption | omega | (split <;> omega) | (refine And.intro ?_ ?_ <;> split <;> omega)) | omega)
theorem s_T_addPoints {σ : SG} {one_0 : Nat} {two_0 : Nat} (hσ : II σ) (hs_one_0 : isS one_0) (hs_two_0 : isS two_0) (w0 : SHa σ one_0) (w1 : SHa σ two_0) : wp_ (fT_addPoints σ one_0 two_0) (fun zz_ => II zz_ ∧ FC [kT_matrix] [] σ zz_) := by
  unfold fT_addPoints
  refine wp_bd (P := fun rr_ => II rr_.2 ∧ FC [kT_matrix] [] σ rr_.2 ∧ (True)) ?_ ?_
  · refine wp_whl (fun ss_ => II ss_.2 ∧ FC [kT_matrix] [] σ ss_.2 ∧ (0 ≤ ss_.1 ∧ ss_.1 ≤ 2048)) (fun ss_ => (2049 - ss_.1).toNat) ⟨hσ, (FC_refl _ _ _), (by (try dsimp only) <;> first | assumption | omega | ((try simp (disch := omega) only [w32_of, w64_of, w8_of]) <;> first | assumption | omega | (split <;> omega) | (refine And.intro ?_ ?_ <;> split <;> omega)) | omega)⟩ ?_
    rintro ⟨i_1, σ_2⟩ y2
    try dsimp only at y2 ⊢
    obtain ⟨hσ_2, frσ_2, g1⟩ := y2
    have c4 := w32_rng i_1
    have c5 := iiA_points (s := one_0) hσ_2 (by first | assumption | decide | omega) 0
    have c6 := congrFun (FC_points (t := one_0) frσ_2 (by first | assumption | decide | omega) (NS_0 _)) 0
    have c7 := iiA_points (s := one_0) hσ (by first | assumption | decide | omega) 0
    have c8 := w32_rng (σ_2 (kA_points one_0) 0)
    refine wp_if (fun c3 => ?_) (fun c3 => ?_)
    · try simp (disch := omega) only [w32_of, w64_of, w8_of, decide_eq_true_eq, decide_eq_false_iff_not, Bool.not_eq_true] at c3
      refine wp_bd (s_T_isOfPoints (σ := σ_2) (shape_0 := one_0) hσ_2 (by first | assumption | decide | omega)) ?_
      rintro x_20 - -
      refine wp_if (fun c10 => ?_) (fun c10 => ?_)
      · try simp (disch := omega) only [w32_of, w64_of, w8_of, decide_eq_true_eq, decide_eq_false_iff_not, Bool.not_eq_true] at c10
        refine wp_rdI (by (try dsimp only) <;> first | assumption | omega | ((try simp (disch := omega) only [w32_of, w64_of, w8_of]) <;> first | assumption | omega | (split <;> omega) | (refine And.intro ?_ ?_ <;> split <;> omega)) | omega) (by (try dsimp only) <;> first | assumption | omega | ((try simp (disch := omega) only [w32_of, w64_of, w8_of]) <;> first | assumption | omega | (split <;> omega) | (refine And.intro ?_ ?_ <;> split <;> omega)) | omega) (fun x_22 e_x_22 => ?_)
        have b_x_22 : (-1000000000) ≤ x_22 ∧ x_22 ≤ 1000000000 := by rw [e_x_22]; exact iiA_x (s := one_0) hσ_2 (by first | assumption | decide | omega) _
        rw [FC_x (t := one_0) frσ_2 (by first | assumption | decide | omega) (NS_0 _)] at e_x_22
        try simp (disch := omega) only [w32_of, w64_of, w8_of] at e_x_22
        have c11 := iiA_x (s := one_0) hσ_2 (by first | assumption | decide | omega) i_1
        have c12 := congrFun (FC_x (t := one_0) frσ_2 (by first | assumption | decide | omega) (NS_0 _)) i_1
        have c13 := iiA_x (s := one_0) hσ (by first | assumption | decide | omega) i_1
        refine wp_rdI (by (try dsimp only) <;> first | assumption | omega | ((try simp (disch := omega) only [w32_of, w64_of, w8_of]) <;> first | assumption | omega | (split <;> omega) | (refine And.intro ?_ ?_ <;> split <;> omega)) | omega) (by (try dsimp only) <;> first | assumption | omega | ((try simp (disch := omega) only [w32_of, w64_of, w8_of]) <;> first | assumption | omega | (split <;> omega) | (refine And.intro ?_ ?_ <;> split <;> omega)) | omega) (fun x_24 e_x_24 => ?_)
        have b_x_24 : (-1000000000) ≤ x_24 ∧ x_24 ≤ 1000000000 := by rw [e_x_24]; exact iiA_y (s := one_0) hσ_2 (by first | assumption | decide | omega) _
        rw [FC_y (t := one_0) frσ_2 (by first | assumption | decide | omega) (NS_0 _)] at e_x_24
        try simp (disch := omega) only [w32_of, w64_of, w8_of] at e_x_24
        have c14 := iiA_y (s := one_0) hσ_2 (by first | assumption | decide | omega) i_1
        have c15 := congrFun (FC_y (t := one_0) frσ_2 (by first | assumption | decide | omega) (NS_0 _)) i_1
        have c16 := iiA_y (s := one_0) hσ (by first | assumption | decide | omega) i_1
        refine wp_bd (s_T_whereIs (σ := σ_2) (shape_0 := two_0) (x_0 := x_22) (y_0 := x_24) hσ_2 (by first | assumption | decide | omega) (SHa_f frσ_2 (by first | assumption | decide | omega) (NS_0 _) w1)) ?_
        rintro x_27 - g17
        try simp (disch := omega) only [w32_of, w64_of, w8_of] at g17
        refine wp_bd (s_T_raise (σ := σ_2) (first_0 := 0) (second_0 := x_27) (dimension_0 := 0) hσ_2 (by (try dsimp only) <;> first | assumption | omega | ((try simp (disch := omega) only [w32_of, w64_of, w8_of]) <;> first | assumption | omega | (split <;> omega) | (refine And.intro ?_ ?_ <;> split <;> omega)) | omega) (by (try dsimp only) <;> first | assumption | omega | ((try simp (disch := omega) only [w32_of, w64_of, w8_of]) <;> first | assumption | omega | (split <;> omega) | (refine And.intro ?_ ?_ <;> split <;> omega)) | omega) (by (try dsimp only) <;> first | assumption | omega | ((try simp (disch := omega) only [w32_of, w64_of, w8_of]) <;> first | assumption | omega | (split <;> omega) | (refine And.intro ?_ ?_ <;> split <;> omega)) | omega)) ?_
        rintro σ_29 - ⟨hσ_29, flσ_29⟩
        have frσ_29 : FC [kT_matrix] [] σ σ_29 := FC_tr frσ_2 flσ_29 (by first | decide | (rcases hE with rfl | rfl | rfl <;> decide)) (by first | decide | (rcases hE with rfl | rfl | rfl <;> decide)) (by simp) (by simp)
        exact wp_some (x_inl ⟨⟨hσ_29, frσ_29, (by (try dsimp only) <;> first | assumption | omega | ((try simp (disch := omega) only [w32_of, w64_of, w8_of]) <;> first | assumption | omega | (split <;> omega) | (refine And.intro ?_ ?_ <;> split <;> omega)) | omega)⟩, (by (try dsimp only) <;> first | assumption | omega | ((try simp (disch := omega) only [w32_of, w64_of, w8_of]) <;> first | assumption | omega | (split <;> omega) | (refine And.intro ?_ ?_ <;> split <;> omega)) | omega)⟩)
      · try simp (disch := omega) only [w32_of, w64_of, w8_of, decide_eq_true_eq, decide_eq_false_iff_not, Bool.not_eq_true] at c10
        exact wp_some (x_inr ⟨hσ_2, frσ_2, (by (try dsimp only) <;> first | assumption | omega | ((try simp (disch := omega) only [w32_of, w64_of, w8_of]) <;> first | assumption | omega | (split <;> omega) | (refine And.intro ?_ ?_ <;> split <;> omega)) | omega)⟩)
    · try simp (disch := omega) only [w32_of, w64_of, w8_of, decide_eq_true_eq, decide_eq_false_iff_not, Bool.not_eq_true] at c3
      exact wp_some (x_inr ⟨hσ_2, frσ_2, (by (try dsimp only) <;> first | assumption | omega | ((try simp (disch := omega) only [w32_of, w64_of, w8_of]) <;> first | assumption | omega | (split <;> omega) | (refine And.intro ?_ ?_ <;> split <;> omega)) | omega)⟩)
  rintro ⟨i_33, σ_34⟩ _ y19
  try dsimp only at y19 ⊢
  obtain ⟨hσ_34, frσ_34, g18⟩ := y19
  refine wp_bd (P := fun rr_ => II rr_.2 ∧ FC [kT_matrix] [] σ rr_.2 ∧ (True)) ?_ ?_
  · refine wp_whl (fun ss_ => II ss_.2 ∧ FC [kT_matrix] [] σ ss_.2 ∧ (0 ≤ ss_.1 ∧ ss_.1 ≤ 2048)) (fun ss_ => (2049 - ss_.1).toNat) ⟨hσ_34, frσ_34, (by (try dsimp only) <;> first | assumption | omega | ((try simp (disch := omega) only [w32_of, w64_of, w8_of]) <;> first | assumption | omega | (split <;> omega) | (refine And.intro ?_ ?_ <;> split <;> omega)) | omega)⟩ ?_
    rintro ⟨i_35, σ_36⟩ y21
    try dsimp only at y21 ⊢
    obtain ⟨hσ_36, frσ_36, g20⟩ := y21
    have c23 := w32_rng i_35
    have c24 := iiA_points (s := two_0) hσ_36 (by first | assumption | decide | omega) 0
    have c25 := congrFun (FC_points (t := two_0) frσ_36 (by first | assumption | decide | omega) (NS_0 _)) 0
    have c26 := iiA_points (s := two_0) hσ (by first | assumption | decide | omega) 0
    have c27 := w32_rng (σ_36 (kA_points two_0) 0)
    refine wp_if (fun c22 => ?_) (fun c22 => ?_)
    · try simp (disch := omega) only [w32_of, w64_of, w8_of, decide_eq_true_eq, decide_eq_false_iff_not, Bool.not_eq_true] at c22
      refine wp_bd (s_T_isOfPoints (σ := σ_36) (shape_0 := two_0) hσ_36 (by first | assumption | decide | omega)) ?_
      rintro x_54 - -
      refine wp_if (fun c29 => ?_) (fun c29 => ?_)
      · try simp (disch := omega) only [w32_of, w64_of, w8_of, decide_eq_true_eq, decide_eq_false_iff_not, Bool.not_eq_true] at c29
        refine wp_rdI (by (try dsimp only) <;> first | assumption | omega | ((try simp (disch := omega) only [w32_of, w64_of, w8_of]) <;> first | assumption | omega | (split <;> omega) | (refine And.intro ?_ ?_ <;> split <;> omega)) | omega) (by (try dsimp only) <;> first | assumption | omega | ((try simp (disch := omega) only [w32_of, w64_of, w8_of]) <;> first | assumption | omega | (split <;> omega) | (refine And.intro ?_ ?_ <;> split <;> omega)) | omega) (fun x_56 e_x_56 => ?_)
        have b_x_56 : (-1000000000) ≤ x_56 ∧ x_56 ≤ 1000000000 := by rw [e_x_56]; exact iiA_x (s := two_0) hσ_36 (by first | assumption | decide | omega) _
        rw [FC_x (t := two_0) frσ_36 (by first | assumption | decide | omega) (NS_0 _)] at e_x_56
        try simp (disch := omega) only [w32_of, w64_of, w8_of] at e_x_56
        have c30 := iiA_x (s := two_0) hσ_36 (by first | assumption | decide | omega) i_35
        have c31 := congrFun (FC_x (t := two_0) frσ_36 (by first | assumption | decide | omega) (NS_0 _)) i_35
        have c32 := iiA_x (s := two_0) hσ (by first | assumption | decide | omega) i_35
        refine wp_rdI (by (try dsimp only) <;> first | assumption | omega | ((try simp (disch := omega) only [w32_of, w64_of, w8_of]) <;> first | assumption | omega | (split <;> omega) | (refine And.intro ?_ ?_ <;> split <;> omega)) | omega) (by (try dsimp only) <;> first | assumption | omega | ((try simp (disch := omega) only [w32_of, w64_of, w8_of]) <;> first | assumption | omega | (split <;> omega) | (refine And.intro ?_ ?_ <;> split <;> omega)) | omega) (fun x_58 e_x_58 => ?_)
        have b_x_58 : (-1000000000) ≤ x_58 ∧ x_58 ≤ 1000000000 := by rw [e_x_58]; exact iiA_y (s := two_0) hσ_36 (by first | assumption | decide | omega) _
        rw [FC_y (t := two_0) frσ_36 (by first | assumption | decide | omega) (NS_0 _)] at e_x_58
        try simp (disch := omega) only [w32_of, w64_of, w8_of] at e_x_58
        have c33 := iiA_y (s := two_0) hσ_36 (by first | assumption | decide | omega) i_35
        have c34 := congrFun (FC_y (t := two_0) frσ_36 (by first | assumption | decide | omega) (NS_0 _)) i_35
        have c35 := iiA_y (s := two_0) hσ (by first | assumption | decide | omega) i_35
        refine wp_bd (s_T_whereIs (σ := σ_36) (shape_0 := one_0) (x_0 := x_56) (y_0 := x_58) hσ_36 (by first | assumption | decide | omega) (SHa_f frσ_36 (by first | assumption | decide | omega) (NS_0 _) w0)) ?_
        rintro x_61 - g36
        try simp (disch := omega) only [w32_of, w64_of, w8_of] at g36
        refine wp_bd (s_T_raise (σ := σ_36) (first_0 := x_61) (second_0 := 0) (dimension_0 := 0) hσ_36 (by (try dsimp only) <;> first | assumption | omega | ((try simp (disch := omega) only [w32_of, w64_of, w8_of]) <;> first | assumption | omega | (split <;> omega) | (refine And.intro ?_ ?_ <;> split <;> omega)) | omega) (by (try dsimp only) <;> first | assumption | omega | ((try simp (disch := omega) only [w32_of, w64_of, w8_of]) <;> first | assumption | omega | (split <;> omega) | (refine And.intro ?_ ?_ <;> split <;> omega)) | omega) (by (try dsimp only) <;> first | assumption | omega | ((try simp (disch := omega) only [w32_of, w64_of, w8_of]) <;> first | assumption | omega | (split <;> omega) | (refine And.intro ?_ ?_ <;> split <;> omega)) | omega)) ?_
        rintro σ_63 - ⟨hσ_63, flσ_63⟩
        have frσ_63 : FC [kT_matrix] [] σ σ_63 := FC_tr frσ_36 flσ_63 (by first | decide | (rcases hE with rfl | rfl | rfl <;> decide)) (by first | decide | (rcases hE with rfl | rfl | rfl <;> decide)) (by simp) (by simp)
        exact wp_some (x_inl ⟨⟨hσ_63, frσ_63, (by (try dsimp only) <;> first | assumption | omega | ((try simp (disch := omega) only [w32_of, w64_of, w8_of]) <;> first | assumption | omega | (split <;> omega) | (refine And.intro ?_ ?_ <;> split <;> omega)) | omega)⟩, (by (try dsimp only) <;> first | assumption | omega | ((try simp (disch := omega) only [w32_of, w64_of, w8_of]) <;> first | assumption | omega | (split <;> omega) | (refine And.intro ?_ ?_ <;> split <;> omega)) | omega)⟩)
      · try simp (disch := omega) only [w32_of, w64_of, w8_of, decide_eq_true_eq, decide_eq_false_iff_not, Bool.not_eq_true] at c29
        exact wp_some (x_inr ⟨hσ_36, frσ_36, (by (try dsimp only) <;> first | assumption | omega | ((try simp (disch := omega) only [w32_of, w64_of, w8_of]) <;> first | assumption | omega | (split <;> omega) | (refine And.intro ?_ ?_ <;> split <;> omega)) | omega)⟩)
    · try simp (disch := omega) only [w32_of, w64_of, w8_of, decide_eq_true_eq, decide_eq_false_iff_not, Bool.not_eq_true] at c22
      exact wp_some (x_inr ⟨hσ_36, frσ_36, (by (try dsimp only) <;> first | assumption | omega | ((try simp (disch := omega) only [w32_of, w64_of, w8_of]) <;> first | assumption | omega | (split <;> omega) | (refine And.intro ?_ ?_ <;> split <;> omega)) | omega)⟩)
  rintro ⟨i_67, σ_68⟩ _ y38
  try dsimp only at y38 ⊢
  obtain ⟨hσ_68, frσ_68, g37⟩ := y38
  exact wp_some ⟨hσ_68, frσ_68⟩
theorem s_T_collect {σ : SG} {shape_0 : Nat} {owner_0 : Int} (hσ : II σ) (hs_shape_0 : isS shape_0) (w0 : SHa σ shape_0) (w1 : 0 ≤ owner_0 ∧ owner_0 ≤ 1) (w2 : σ (kE_size 223) 0 ≤ 256) : wp_ (fT_collect σ shape_0 owner_0) (fun zz_ => II zz_.2 ∧ FC [57344, 57600, 57856, 58112, 58368, (kE_size 223)] [] σ zz_.2 ∧ (zz_.2 (kE_size 223) 0 ≤ 256)) := by
  unfold fT_collect
  have c1 := iiE_size (s := 223) hσ (by decide) 0
  have hpl := iiA_plans hσ hs_shape_0 0
  have hpt := iiA_points hσ hs_shape_0 0
  have hgz9 : ((gsz 223 : Nat) : Int) = 256 := by decide
  refine wp_bd (s_T_isOfPoints (σ := σ) (shape_0 := shape_0) hσ (by first | assumption | decide | omega)) ?_
  rintro x_2 - -
  refine wp_if (fun c3 => ?_) (fun c3 => ?_)
  · try simp (disch := omega) only [w32_of, w64_of, w8_of, decide_eq_true_eq, decide_eq_false_iff_not, Bool.not_eq_true] at c3
    exact wp_some ⟨hσ, (FC_refl _ _ _), (by (try dsimp only) <;> first | assumption | omega | ((try simp (disch := omega) only [w32_of, w64_of, w8_of]) <;> first | assumption | omega | (split <;> omega) | (refine And.intro ?_ ?_ <;> split <;> omega)) | omega)⟩
  · try simp (disch := omega) only [w32_of, w64_of, w8_of, decide_eq_true_eq, decide_eq_false_iff_not, Bool.not_eq_true] at c3
    refine wp_bx (P := fun rr_ => II rr_.2.2 ∧ FC [57344, 57600, 57856, 58112, 58368, (kE_size 223)] [] σ rr_.2.2 ∧ (rr_.2.2 (kE_size 223) 0 ≤ 256)) ?_ ?_
    · refine wp_whl (fun ss_ => II ss_.2.2 ∧ FC [57344, 57600, 57856, 58112, 58368, (kE_size 223)] [] σ ss_.2.2 ∧ (FLa σ shape_0 ss_.2.1 ss_.1) ∧ (ss_.2.2 (kE_size 223) 0 ≤ 256)) (fun ss_ => (2048 - ss_.2.1).toNat) ⟨hσ, (FC_refl _ _ _), (by (try dsimp only) <;> (first | assumption | exact FLa_0 w0 | (rw [hbh, hfe]; exact hn))), (by (try dsimp only) <;> first | assumption | omega | ((try simp (disch := omega) only [w32_of, w64_of, w8_of]) <;> first | assumption | omega | (split <;> omega) | (refine And.intro ?_ ?_ <;> split <;> omega)) | omega)⟩ ?_
      rintro ⟨from_4, at_5, σ_6⟩ y5
      try dsimp only at y5 ⊢
      obtain ⟨hσ_6, frσ_6, gw, g4⟩ := y5
      have hle := FLa_le gw
      have c7 := w32_rng (at_5 + 1)
      have c8 := iiA_plans (s := shape_0) hσ_6 (by first | assumption | decide | omega) 0
      have c9 := congrFun (FC_plans (t := shape_0) frσ_6 (by first | assumption | decide | omega) (NS_0 _)) 0
      have c10 := iiA_plans (s := shape_0) hσ (by first | assumption | decide | omega) 0
      have c11 := w32_rng (σ_6 (kA_plans shape_0) 0)
      refine wp_if (fun c6 => ?_) (fun c6 => ?_)
      · try simp (disch := omega) only [w32_of, w64_of, w8_of, decide_eq_true_eq, decide_eq_false_iff_not, Bool.not_eq_true] at c6
        obtain ⟨he, hn, h2, h3, h4, h5, h6⟩ := FLa_hd hσ hs_shape_0 gw (by omega)
        obtain ⟨ho, -, -, -⟩ := id he
        have hRe := rS_end ho
        refine wp_bx (P := fun rr_ => II rr_.2.2 ∧ FC [57344, 57600, 57856, 58112, 58368, (kE_size 223)] [] σ rr_.2.2 ∧ (rr_.1 = from_4 + eP (σ (kA_plan shape_0)) at_5) ∧ (rr_.2.2 (kE_size 223) 0 ≤ 256)) ?_ ?_
        · have c12 := iiE_size (s := 223) hσ_6 (by decide) 0
          refine wp_whl (fun ss_ => II ss_.2.2 ∧ FC [57344, 57600, 57856, 58112, 58368, (kE_size 223)] [] σ ss_.2.2 ∧ (0 ≤ ss_.2.1 ∧ ss_.2.1 ≤ rN (σ (kA_plan shape_0)) at_5) ∧ (ss_.1 = from_4 + rS (σ (kA_plan shape_0)) at_5 ss_.2.1) ∧ (ss_.2.2 (kE_size 223) 0 ≤ 256)) (fun ss_ => (rN (σ (kA_plan shape_0)) at_5 - ss_.2.1).toNat) ⟨hσ_6, frσ_6, (by (try dsimp only) <;> first | assumption | omega | ((try simp (disch := omega) only [w32_of, w64_of, w8_of]) <;> first | assumption | omega | (split <;> omega) | (refine And.intro ?_ ?_ <;> split <;> omega)) | omega), (by (try dsimp only) <;> (first | (rw [rS_0]; omega) | omega)), (by (try dsimp only) <;> first | assumption | omega | ((try simp (disch := omega) only [w32_of, w64_of, w8_of]) <;> first | assumption | omega | (split <;> omega) | (refine And.intro ?_ ?_ <;> split <;> omega)) | omega)⟩ ?_
          rintro ⟨from_15, row_16, σ_17⟩ y15
          try dsimp only at y15 ⊢
          obtain ⟨hσ_17, frσ_17, g13, hfr, g14⟩ := y15
          refine wp_bd (s_A_rows (σ := σ_17) (this_0 := shape_0) (at_0 := at_5) hσ_17 (by first | assumption | decide | omega) (ENa_f frσ_17 (by first | assumption | decide | omega) (NS_0 _) he)) ?_
          rintro x_26 - ⟨g16, g17⟩
          try simp only [FC_plan (t := shape_0) frσ_17 (by first | assumption | decide | omega) (NS_0 _)] at g16
          try simp (disch := omega) only [w32_of, w64_of, w8_of] at g16
          try simp (disch := omega) only [w32_of, w64_of, w8_of] at g17
          have c19 := w32_rng row_16
          have c20 := w32_rng x_26
          refine wp_if (fun c18 => ?_) (fun c18 => ?_)
          · try simp (disch := omega) only [w32_of, w64_of, w8_of, decide_eq_true_eq, decide_eq_false_iff_not, Bool.not_eq_true] at c18
            have hg := rS_go ho (show 0 ≤ row_16 by omega) (by omega)
            refine wp_bd (s_A_rowLength (σ := σ_17) (this_0 := shape_0) (at_0 := at_5) (row_0 := row_16) hσ_17 (by first | assumption | decide | omega) (ENa_f frσ_17 (by first | assumption | decide | omega) (NS_0 _) he) (by (try simp only [FC_plan (t := shape_0) frσ_17 (by first | assumption | decide | omega) (NS_0 _)]) <;> ((try dsimp only) <;> first | assumption | omega | ((try simp (disch := omega) only [w32_of, w64_of, w8_of]) <;> first | assumption | omega | (split <;> omega) | (refine And.intro ?_ ?_ <;> split <;> omega)) | omega))) ?_
            rintro x_29 - ⟨g21, g22⟩
            try simp only [FC_plan (t := shape_0) frσ_17 (by first | assumption | decide | omega) (NS_0 _)] at g21
            try simp (disch := omega) only [w32_of, w64_of, w8_of] at g21
            try simp (disch := omega) only [w32_of, w64_of, w8_of] at g22
            refine wp_bx (P := fun rr_ => II rr_.2 ∧ FC [57344, 57600, 57856, 58112, 58368, (kE_size 223)] [] σ rr_.2 ∧ (rr_.2 (kE_size 223) 0 ≤ 256)) ?_ ?_
            · have c23 := iiE_size (s := 223) hσ_17 (by decide) 0
              refine wp_whl (fun ss_ => II ss_.2 ∧ FC [57344, 57600, 57856, 58112, 58368, (kE_size 223)] [] σ ss_.2 ∧ (from_15 ≤ ss_.1 ∧ ss_.1 ≤ from_15 + x_29) ∧ (ss_.2 (kE_size 223) 0 ≤ 256)) (fun ss_ => (from_15 + x_29 - ss_.1).toNat) ⟨hσ_17, frσ_17, (by (try dsimp only) <;> first | assumption | omega | ((try simp (disch := omega) only [w32_of, w64_of, w8_of]) <;> first | assumption | omega | (split <;> omega) | (refine And.intro ?_ ?_ <;> split <;> omega)) | omega), (by (try dsimp only) <;> first | assumption | omega | ((try simp (disch := omega) only [w32_of, w64_of, w8_of]) <;> first | assumption | omega | (split <;> omega) | (refine And.intro ?_ ?_ <;> split <;> omega)) | omega)⟩ ?_
              rintro ⟨i_30, σ_31⟩ y26
              try dsimp only at y26 ⊢
              obtain ⟨hσ_31, frσ_31, g24, g25⟩ := y26
              have c28 := w32_rng i_30
              have c29 := w32_rng (from_15 + x_29)
              refine wp_if (fun c27 => ?_) (fun c27 => ?_)
              · try simp (disch := omega) only [w32_of, w64_of, w8_of, decide_eq_true_eq, decide_eq_false_iff_not, Bool.not_eq_true] at c27
                have c30 := w32_rng (i_30 + 1)
                refine wp_lt (fun x_41 e_x_41 => ?_)
                try simp (disch := omega) only [w32_of, w64_of, w8_of] at e_x_41
                have hx41 : 0 ≤ x_41 ∧ x_41 ≤ 2047 := by
                  rw [e_x_41]; split <;> omega
                refine wp_bd (s_A_areLike (σ := σ_31) (this_0 := shape_0) (i_0 := i_30) (j_0 := x_41) hσ_31 (by first | assumption | decide | omega) (by (try dsimp only) <;> first | assumption | omega | ((try simp (disch := omega) only [w32_of, w64_of, w8_of]) <;> first | assumption | omega | (split <;> omega) | (refine And.intro ?_ ?_ <;> split <;> omega)) | omega) (by (try dsimp only) <;> first | assumption | omega | ((try simp (disch := omega) only [w32_of, w64_of, w8_of]) <;> first | assumption | omega | (split <;> omega) | (refine And.intro ?_ ?_ <;> split <;> omega)) | omega)) ?_
                rintro x_60 - g31
                try simp only [FC_x (t := shape_0) frσ_31 (by first | assumption | decide | omega) (NS_0 _)] at g31
                try simp only [FC_y (t := shape_0) frσ_31 (by first | assumption | decide | omega) (NS_0 _)] at g31
                have c32 := iiA_x (s := shape_0) hσ (by first | assumption | decide | omega) i_30
                have c33 := iiA_x (s := shape_0) hσ (by first | assumption | decide | omega) x_41
                have c34 := iiA_y (s := shape_0) hσ (by first | assumption | decide | omega) i_30
                have c35 := iiA_y (s := shape_0) hσ (by first | assumption | decide | omega) x_41
                try simp (disch := omega) only [w32_of, w64_of, w8_of] at g31
                refine wp_if (fun c36 => ?_) (fun c36 => ?_)
                · have k37 := g31.mp c36
                  try simp (disch := omega) only [w32_of, w64_of, w8_of] at k37
                  try simp (disch := omega) only [w32_of, w64_of, w8_of, decide_eq_true_eq, decide_eq_false_iff_not, Bool.not_eq_true] at c36
                  have c38 := iiE_size (s := 223) hσ_31 (by decide) 0
                  exact wp_some (x_inl ⟨⟨hσ_31, frσ_31, (by (try dsimp only) <;> first | assumption | omega | ((try simp (disch := omega) only [w32_of, w64_of, w8_of]) <;> first | assumption | omega | (split <;> omega) | (refine And.intro ?_ ?_ <;> split <;> omega)) | omega), (by (try dsimp only) <;> first | assumption | omega | ((try simp (disch := omega) only [w32_of, w64_of, w8_of]) <;> first | assumption | omega | (split <;> omega) | (refine And.intro ?_ ?_ <;> split <;> omega)) | omega)⟩, (by (try dsimp only) <;> first | assumption | omega | ((try simp (disch := omega) only [w32_of, w64_of, w8_of]) <;> first | assumption | omega | (split <;> omega) | (refine And.intro ?_ ?_ <;> split <;> omega)) | omega)⟩)
                · have k39 := fun q => c36 (g31.mpr q)
                  try simp (disch := omega) only [w32_of, w64_of, w8_of] at k39
                  try simp (disch := omega) only [w32_of, w64_of, w8_of, decide_eq_true_eq, decide_eq_false_iff_not, Bool.not_eq_true] at c36
                  have c41 := w32_rng x_41
                  have c42 := w32_rng from_15
                  refine wp_if (fun c40 => ?_) (fun c40 => ?_)
                  · try simp (disch := omega) only [w32_of, w64_of, w8_of, decide_eq_true_eq, decide_eq_false_iff_not, Bool.not_eq_true] at c40
                    refine wp_bd (s_T_isArea (σ := σ_31) (shape_0 := shape_0) hσ_31 (by first | assumption | decide | omega)) ?_
                    rintro x_65 - -
                    refine wp_if (fun c44 => ?_) (fun c44 => ?_)
                    · try simp (disch := omega) only [w32_of, w64_of, w8_of, decide_eq_true_eq, decide_eq_false_iff_not, Bool.not_eq_true] at c44
                      refine wp_bd (v_addE (σ := σ_31) (this_0 := 223) (shape_0 := shape_0) (from_0 := i_30) (to_0 := x_41) (itsMark_0 := owner_0) hσ_31 (by decide) (by first | assumption | decide | omega) (by (try dsimp only) <;> first | assumption | omega | ((try simp (disch := omega) only [w32_of, w64_of, w8_of]) <;> first | assumption | omega | (split <;> omega) | (refine And.intro ?_ ?_ <;> split <;> omega)) | omega) (by (try dsimp only) <;> first | assumption | omega | ((try simp (disch := omega) only [w32_of, w64_of, w8_of]) <;> first | assumption | omega | (split <;> omega) | (refine And.intro ?_ ?_ <;> split <;> omega)) | omega) (by rw [bE_mark223]; exact ⟨by omega, by omega⟩)) ?_
                      rintro ⟨x_69, σ_68⟩ - y49
                      try dsimp only at y49 ⊢
                      obtain ⟨hσ_68, flσ_68, g45, g46, g47, g48⟩ := y49
                      have frσ_68 : FC [57344, 57600, 57856, 58112, 58368, (kE_size 223)] [] σ σ_68 := FC_tr frσ_31 flσ_68 (by first | decide | (rcases hE with rfl | rfl | rfl <;> decide)) (by first | decide | (rcases hE with rfl | rfl | rfl <;> decide)) (by simp) (by simp)
                      have c50 := iiE_size (s := 223) hσ_31 (by decide) 0
                      have c51 := iiE_size (s := 223) hσ_68 (by decide) 0
                      try simp (disch := omega) only [w32_of, w64_of, w8_of] at g45
                      try simp (disch := omega) only [w32_of, w64_of, w8_of] at g46
                      try simp (disch := omega) only [w32_of, w64_of, w8_of] at g47
                      try simp only [FC_x (t := shape_0) frσ_31 (by first | assumption | decide | omega) (NS_0 _)] at g48
                      try simp only [FC_y (t := shape_0) frσ_31 (by first | assumption | decide | omega) (NS_0 _)] at g48
                      try simp (disch := omega) only [w32_of, w64_of, w8_of] at g48
                      refine wp_if (fun c52 => ?_) (fun c52 => ?_)
                      · have k53 := g46.mp c52
                        try simp (disch := omega) only [w32_of, w64_of, w8_of] at k53
                        have k55 := g48 c52
                        try simp (disch := omega) only [w32_of, w64_of, w8_of] at k55
                        try simp (disch := omega) only [w32_of, w64_of, w8_of, decide_eq_true_eq, decide_eq_false_iff_not, Bool.not_eq_true] at c52
                        exact wp_some (x_inl ⟨⟨hσ_68, frσ_68, (by (try dsimp only) <;> first | assumption | omega | ((try simp (disch := omega) only [w32_of, w64_of, w8_of]) <;> first | assumption | omega | (split <;> omega) | (refine And.intro ?_ ?_ <;> split <;> omega)) | omega), (by (try dsimp only) <;> first | assumption | omega | ((try simp (disch := omega) only [w32_of, w64_of, w8_of]) <;> first | assumption | omega | (split <;> omega) | (refine And.intro ?_ ?_ <;> split <;> omega)) | omega)⟩, (by (try dsimp only) <;> first | assumption | omega | ((try simp (disch := omega) only [w32_of, w64_of, w8_of]) <;> first | assumption | omega | (split <;> omega) | (refine And.intro ?_ ?_ <;> split <;> omega)) | omega)⟩)
                      · have k56 := fun q => c52 (g46.mpr q)
                        try simp (disch := omega) only [w32_of, w64_of, w8_of] at k56
                        have k57 := g47 (Bool.eq_false_iff.mpr c52)
                        try simp (disch := omega) only [w32_of, w64_of, w8_of] at k57
                        try simp (disch := omega) only [w32_of, w64_of, w8_of, decide_eq_true_eq, decide_eq_false_iff_not, Bool.not_eq_true] at c52
                        exact wp_some (x_inr (x_inr (x_inr (x_inr (x_inr (x_inr ⟨hσ_68, frσ_68, (by (try dsimp only) <;> first | assumption | omega | ((try simp (disch := omega) only [w32_of, w64_of, w8_of]) <;> first | assumption | omega | (split <;> omega) | (refine And.intro ?_ ?_ <;> split <;> omega)) | omega)⟩))))))
                    · try simp (disch := omega) only [w32_of, w64_of, w8_of, decide_eq_true_eq, decide_eq_false_iff_not, Bool.not_eq_true] at c44
                      have c59 := iiE_size (s := 223) hσ_31 (by decide) 0
                      exact wp_some (x_inl ⟨⟨hσ_31, frσ_31, (by (try dsimp only) <;> first | assumption | omega | ((try simp (disch := omega) only [w32_of, w64_of, w8_of]) <;> first | assumption | omega | (split <;> omega) | (refine And.intro ?_ ?_ <;> split <;> omega)) | omega), (by (try dsimp only) <;> first | assumption | omega | ((try simp (disch := omega) only [w32_of, w64_of, w8_of]) <;> first | assumption | omega | (split <;> omega) | (refine And.intro ?_ ?_ <;> split <;> omega)) | omega)⟩, (by (try dsimp only) <;> first | assumption | omega | ((try simp (disch := omega) only [w32_of, w64_of, w8_of]) <;> first | assumption | omega | (split <;> omega) | (refine And.intro ?_ ?_ <;> split <;> omega)) | omega)⟩)
                  · try simp (disch := omega) only [w32_of, w64_of, w8_of, decide_eq_true_eq, decide_eq_false_iff_not, Bool.not_eq_true] at c40
                    refine wp_bd (v_addE (σ := σ_31) (this_0 := 223) (shape_0 := shape_0) (from_0 := i_30) (to_0 := x_41) (itsMark_0 := owner_0) hσ_31 (by decide) (by first | assumption | decide | omega) (by (try dsimp only) <;> first | assumption | omega | ((try simp (disch := omega) only [w32_of, w64_of, w8_of]) <;> first | assumption | omega | (split <;> omega) | (refine And.intro ?_ ?_ <;> split <;> omega)) | omega) (by (try dsimp only) <;> first | assumption | omega | ((try simp (disch := omega) only [w32_of, w64_of, w8_of]) <;> first | assumption | omega | (split <;> omega) | (refine And.intro ?_ ?_ <;> split <;> omega)) | omega) (by rw [bE_mark223]; exact ⟨by omega, by omega⟩)) ?_
                    rintro ⟨x_75, σ_74⟩ - y64
                    try dsimp only at y64 ⊢
                    obtain ⟨hσ_74, flσ_74, g60, g61, g62, g63⟩ := y64
                    have frσ_74 : FC [57344, 57600, 57856, 58112, 58368, (kE_size 223)] [] σ σ_74 := FC_tr frσ_31 flσ_74 (by first | decide | (rcases hE with rfl | rfl | rfl <;> decide)) (by first | decide | (rcases hE with rfl | rfl | rfl <;> decide)) (by simp) (by simp)
                    have c65 := iiE_size (s := 223) hσ_31 (by decide) 0
                    have c66 := iiE_size (s := 223) hσ_74 (by decide) 0
                    try simp (disch := omega) only [w32_of, w64_of, w8_of] at g60
                    try simp (disch := omega) only [w32_of, w64_of, w8_of] at g61
                    try simp (disch := omega) only [w32_of, w64_of, w8_of] at g62
                    try simp only [FC_x (t := shape_0) frσ_31 (by first | assumption | decide | omega) (NS_0 _)] at g63
                    try simp only [FC_y (t := shape_0) frσ_31 (by first | assumption | decide | omega) (NS_0 _)] at g63
                    try simp (disch := omega) only [w32_of, w64_of, w8_of] at g63
                    refine wp_if (fun c67 => ?_) (fun c67 => ?_)
                    · have k68 := g61.mp c67
                      try simp (disch := omega) only [w32_of, w64_of, w8_of] at k68
                      have k70 := g63 c67
                      try simp (disch := omega) only [w32_of, w64_of, w8_of] at k70
                      try simp (disch := omega) only [w32_of, w64_of, w8_of, decide_eq_true_eq, decide_eq_false_iff_not, Bool.not_eq_true] at c67
                      exact wp_some (x_inl ⟨⟨hσ_74, frσ_74, (by (try dsimp only) <;> first | assumption | omega | ((try simp (disch := omega) only [w32_of, w64_of, w8_of]) <;> first | assumption | omega | (split <;> omega) | (refine And.intro ?_ ?_ <;> split <;> omega)) | omega), (by (try dsimp only) <;> first | assumption | omega | ((try simp (disch := omega) only [w32_of, w64_of, w8_of]) <;> first | assumption | omega | (split <;> omega) | (refine And.intro ?_ ?_ <;> split <;> omega)) | omega)⟩, (by (try dsimp only) <;> first | assumption | omega | ((try simp (disch := omega) only [w32_of, w64_of, w8_of]) <;> first | assumption | omega | (split <;> omega) | (refine And.intro ?_ ?_ <;> split <;> omega)) | omega)⟩)
                    · have k71 := fun q => c67 (g61.mpr q)
                      try simp (disch := omega) only [w32_of, w64_of, w8_of] at k71
                      have k72 := g62 (Bool.eq_false_iff.mpr c67)
                      try simp (disch := omega) only [w32_of, w64_of, w8_of] at k72
                      try simp (disch := omega) only [w32_of, w64_of, w8_of, decide_eq_true_eq, decide_eq_false_iff_not, Bool.not_eq_true] at c67
                      exact wp_some (x_inr (x_inr (x_inr (x_inr (x_inr (x_inr ⟨hσ_74, frσ_74, (by (try dsimp only) <;> first | assumption | omega | ((try simp (disch := omega) only [w32_of, w64_of, w8_of]) <;> first | assumption | omega | (split <;> omega) | (refine And.intro ?_ ?_ <;> split <;> omega)) | omega)⟩))))))
              · try simp (disch := omega) only [w32_of, w64_of, w8_of, decide_eq_true_eq, decide_eq_false_iff_not, Bool.not_eq_true] at c27
                have c74 := iiE_size (s := 223) hσ_31 (by decide) 0
                exact wp_some (x_inr (x_inl ⟨hσ_31, frσ_31, (by (try dsimp only) <;> first | assumption | omega | ((try simp (disch := omega) only [w32_of, w64_of, w8_of]) <;> first | assumption | omega | (split <;> omega) | (refine And.intro ?_ ?_ <;> split <;> omega)) | omega)⟩))
            rintro ⟨i_80, σ_81⟩ y76
            try dsimp only at y76 ⊢
            obtain ⟨hσ_81, frσ_81, g75⟩ := y76
            have c77 := iiE_size (s := 223) hσ_81 (by decide) 0
            exact wp_some (x_inl ⟨⟨hσ_81, frσ_81, (by (try dsimp only) <;> first | assumption | omega | ((try simp (disch := omega) only [w32_of, w64_of, w8_of]) <;> first | assumption | omega | (split <;> omega) | (refine And.intro ?_ ?_ <;> split <;> omega)) | omega), (by (try dsimp only) <;> (first | (rw [rS_0]; omega) | omega)), (by (try dsimp only) <;> first | assumption | omega | ((try simp (disch := omega) only [w32_of, w64_of, w8_of]) <;> first | assumption | omega | (split <;> omega) | (refine And.intro ?_ ?_ <;> split <;> omega)) | omega)⟩, (by (try dsimp only) <;> first | assumption | omega | ((try simp (disch := omega) only [w32_of, w64_of, w8_of]) <;> first | assumption | omega | (split <;> omega) | (refine And.intro ?_ ?_ <;> split <;> omega)) | omega)⟩)
          · try simp (disch := omega) only [w32_of, w64_of, w8_of, decide_eq_true_eq, decide_eq_false_iff_not, Bool.not_eq_true] at c18
            have hz : row_16 = rN (σ (kA_plan shape_0)) at_5 := by omega
            rw [hz, hRe.1] at hfr
            have c78 := iiE_size (s := 223) hσ_17 (by decide) 0
            exact wp_some (x_inr (x_inl ⟨hσ_17, frσ_17, (by (try dsimp only) <;> (omega)), (by (try dsimp only) <;> first | assumption | omega | ((try simp (disch := omega) only [w32_of, w64_of, w8_of]) <;> first | assumption | omega | (split <;> omega) | (refine And.intro ?_ ?_ <;> split <;> omega)) | omega)⟩))
        rintro ⟨from_85, row_86, σ_87⟩ y80
        try dsimp only at y80 ⊢
        obtain ⟨hσ_87, frσ_87, hfe, g79⟩ := y80
        refine wp_bd (s_A_behind (σ := σ_87) (this_0 := shape_0) (at_0 := at_5) hσ_87 (by first | assumption | decide | omega) (ENa_f frσ_87 (by first | assumption | decide | omega) (NS_0 _) he)) ?_
        rintro x_89 - hbh
        try simp only [FC_plan (t := shape_0) frσ_87 (by first | assumption | decide | omega) (NS_0 _)] at hbh
        try simp (disch := omega) only [w32_of, w64_of, w8_of] at hbh
        have c81 := iiE_size (s := 223) hσ_87 (by decide) 0
        exact wp_some (x_inl ⟨⟨hσ_87, frσ_87, (by (try dsimp only) <;> (first | assumption | exact FLa_0 w0 | (rw [hbh, hfe]; exact hn))), (by (try dsimp only) <;> first | assumption | omega | ((try simp (disch := omega) only [w32_of, w64_of, w8_of]) <;> first | assumption | omega | (split <;> omega) | (refine And.intro ?_ ?_ <;> split <;> omega)) | omega)⟩, (by (try dsimp only) <;> first | assumption | omega | ((try simp (disch := omega) only [w32_of, w64_of, w8_of]) <;> first | assumption | omega | (split <;> omega) | (refine And.intro ?_ ?_ <;> split <;> omega)) | omega)⟩)
      · try simp (disch := omega) only [w32_of, w64_of, w8_of, decide_eq_true_eq, decide_eq_false_iff_not, Bool.not_eq_true] at c6
        have c82 := iiE_size (s := 223) hσ_6 (by decide) 0
        exact wp_some (x_inr (x_inl ⟨hσ_6, frσ_6, (by (try dsimp only) <;> first | assumption | omega | ((try simp (disch := omega) only [w32_of, w64_of, w8_of]) <;> first | assumption | omega | (split <;> omega) | (refine And.intro ?_ ?_ <;> split <;> omega)) | omega)⟩))
    rintro ⟨from_93, at_94, σ_95⟩ y84
    try dsimp only at y84 ⊢
    obtain ⟨hσ_95, frσ_95, g83⟩ := y84
    have c85 := iiE_size (s := 223) hσ_95 (by decide) 0
    exact wp_some ⟨hσ_95, frσ_95, (by (try dsimp only) <;> first | assumption | omega | ((try simp (disch := omega) only [w32_of, w64_of, w8_of]) <;> first | assumption | omega | (split <;> omega) | (refine And.intro ?_ ?_ <;> split <;> omega)) | omega)⟩
theorem s_T_hasTooManyMeetings {σ : SG} (hσ : II σ) (w0 : σ (kE_size 223) 0 ≤ 256) : wp_ (fT_hasTooManyMeetings σ) (fun zz_ => II zz_.2 ∧ FC [(kE_placeX 223), (kE_placeY 223)] [] σ zz_.2) := by
  unfold fT_hasTooManyMeetings
  have c1 := iiE_size (s := 223) hσ (by decide) 0
  refine wp_bd (P := fun rr_ => II rr_.2.2 ∧ FC [(kE_placeX 223), (kE_placeY 223)] [] σ rr_.2.2 ∧ (True)) ?_ ?_
  · refine wp_whl (fun ss_ => II ss_.2.2 ∧ FC [(kE_placeX 223), (kE_placeY 223)] [] σ ss_.2.2 ∧ (0 ≤ ss_.2.1 ∧ ss_.2.1 ≤ 256)) (fun ss_ => (257 - ss_.2.1).toNat) ⟨hσ, (FC_refl _ _ _), (by (try dsimp only) <;> first | assumption | omega | ((try simp (disch := omega) only [w32_of, w64_of, w8_of]) <;> first | assumption | omega | (split <;> omega) | (refine And.intro ?_ ?_ <;> split <;> omega)) | omega)⟩ ?_
    rintro ⟨meetings_1, i_2, σ_3⟩ y3
    try dsimp only at y3 ⊢
    obtain ⟨hσ_3, frσ_3, g2⟩ := y3
    have c5 := w32_rng i_2
    have c6 := iiE_size (s := 223) hσ_3 (by decide) 0
    have c7 := FC_at frσ_3 (c := (kE_size 223)) (by first | decide | (rcases hE with rfl | rfl | rfl <;> decide)) 0
    have c8 := w32_rng (σ_3 (kE_size 223) 0)
    refine wp_if (fun c4 => ?_) (fun c4 => ?_)
    · try simp (disch := omega) only [w32_of, w64_of, w8_of, decide_eq_true_eq, decide_eq_false_iff_not, Bool.not_eq_true] at c4
      refine wp_bd (P := fun rr_ => II rr_.2.2 ∧ FC [(kE_placeX 223), (kE_placeY 223)] [] σ rr_.2.2 ∧ (True)) ?_ ?_
      · refine wp_whl (fun ss_ => II ss_.2.2 ∧ FC [(kE_placeX 223), (kE_placeY 223)] [] σ ss_.2.2 ∧ (0 ≤ ss_.2.1 ∧ ss_.2.1 ≤ 257)) (fun ss_ => (258 - ss_.2.1).toNat) ⟨hσ_3, frσ_3, (by (try dsimp only) <;> first | assumption | omega | ((try simp (disch := omega) only [w32_of, w64_of, w8_of]) <;> first | assumption | omega | (split <;> omega) | (refine And.intro ?_ ?_ <;> split <;> omega)) | omega)⟩ ?_
        rintro ⟨meetings_12, j_13, σ_14⟩ y10
        try dsimp only at y10 ⊢
        obtain ⟨hσ_14, frσ_14, g9⟩ := y10
        have c12 := w32_rng j_13
        have c13 := iiE_size (s := 223) hσ_14 (by decide) 0
        have c14 := FC_at frσ_14 (c := (kE_size 223)) (by first | decide | (rcases hE with rfl | rfl | rfl <;> decide)) 0
        have c15 := w32_rng (σ_14 (kE_size 223) 0)
        refine wp_if (fun c11 => ?_) (fun c11 => ?_)
        · try simp (disch := omega) only [w32_of, w64_of, w8_of, decide_eq_true_eq, decide_eq_false_iff_not, Bool.not_eq_true] at c11
          refine wp_bd (P := fun rr_ => II rr_.2 ∧ FC [(kE_placeX 223), (kE_placeY 223)] [] σ rr_.2) ?_ ?_
          · have c16 : ((gsz 223 : Nat) : Int) = 256 := by decide
            have c17 : ((gsz 223 : Nat) : Int) = 256 := by decide
            refine wp_bd (s_E_meet (σ := σ_14) (this_0 := 223) (i_0 := i_2) (j_0 := j_13) hσ_14 (by decide) (by (try dsimp only) <;> first | assumption | omega | ((try simp (disch := omega) only [w32_of, w64_of, w8_of]) <;> first | assumption | omega | (split <;> omega) | (refine And.intro ?_ ?_ <;> split <;> omega)) | omega) (by (try dsimp only) <;> first | assumption | omega | ((try simp (disch := omega) only [w32_of, w64_of, w8_of]) <;> first | assumption | omega | (split <;> omega) | (refine And.intro ?_ ?_ <;> split <;> omega)) | omega)) ?_
            rintro ⟨x_29, σ_28⟩ - y20
            try dsimp only at y20 ⊢
            obtain ⟨hσ_28, flσ_28, g18, g19⟩ := y20
            have frσ_28 : FC [(kE_placeX 223), (kE_placeY 223)] [] σ σ_28 := FC_tr frσ_14 flσ_28 (by first | decide | (rcases hE with rfl | rfl | rfl <;> decide)) (by first | decide | (rcases hE with rfl | rfl | rfl <;> decide)) (by simp) (by simp)
            try simp (disch := omega) only [w32_of, w64_of, w8_of] at g18
            try simp (disch := omega) only [w32_of, w64_of, w8_of] at g19
            have c22 := w32_rng x_29
            refine wp_if (fun c21 => ?_) (fun c21 => ?_)
            · try simp (disch := omega) only [w32_of, w64_of, w8_of, decide_eq_true_eq, decide_eq_false_iff_not, Bool.not_eq_true] at c21
              exact wp_some ⟨hσ_28, frσ_28⟩
            · try simp (disch := omega) only [w32_of, w64_of, w8_of, decide_eq_true_eq, decide_eq_false_iff_not, Bool.not_eq_true] at c21
              exact wp_some ⟨hσ_28, frσ_28⟩
          rintro ⟨meetings_33, σ_34⟩ _ y23
          try dsimp only at y23 ⊢
          obtain ⟨hσ_34, frσ_34⟩ := y23
          exact wp_some (x_inl ⟨⟨hσ_34, frσ_34, (by (try dsimp only) <;> first | assumption | omega | ((try simp (disch := omega) only [w32_of, w64_of, w8_of]) <;> first | assumption | omega | (split <;> omega) | (refine And.intro ?_ ?_ <;> split <;> omega)) | omega)⟩, (by (try dsimp only) <;> first | assumption | omega | ((try simp (disch := omega) only [w32_of, w64_of, w8_of]) <;> first | assumption | omega | (split <;> omega) | (refine And.intro ?_ ?_ <;> split <;> omega)) | omega)⟩)
        · try simp (disch := omega) only [w32_of, w64_of, w8_of, decide_eq_true_eq, decide_eq_false_iff_not, Bool.not_eq_true] at c11
          exact wp_some (x_inr ⟨hσ_14, frσ_14, (by (try dsimp only) <;> first | assumption | omega | ((try simp (disch := omega) only [w32_of, w64_of, w8_of]) <;> first | assumption | omega | (split <;> omega) | (refine And.intro ?_ ?_ <;> split <;> omega)) | omega)⟩)
      rintro ⟨meetings_38, j_39, σ_40⟩ _ y25
      try dsimp only at y25 ⊢
      obtain ⟨hσ_40, frσ_40, g24⟩ := y25
      exact wp_some (x_inl ⟨⟨hσ_40, frσ_40, (by (try dsimp only) <;> first | assumption | omega | ((try simp (disch := omega) only [w32_of, w64_of, w8_of]) <;> first | assumption | omega | (split <;> omega) | (refine And.intro ?_ ?_ <;> split <;> omega)) | omega)⟩, (by (try dsimp only) <;> first | assumption | omega | ((try simp (disch := omega) only [w32_of, w64_of, w8_of]) <;> first | assumption | omega | (split <;> omega) | (refine And.intro ?_ ?_ <;> split <;> omega)) | omega)⟩)
    · try simp (disch := omega) only [w32_of, w64_of, w8_of, decide_eq_true_eq, decide_eq_false_iff_not, Bool.not_eq_true] at c4
      exact wp_some (x_inr ⟨hσ_3, frσ_3, (by (try dsimp only) <;> first | assumption | omega | ((try simp (disch := omega) only [w32_of, w64_of, w8_of]) <;> first | assumption | omega | (split <;> omega) | (refine And.intro ?_ ?_ <;> split <;> omega)) | omega)⟩)
  rintro ⟨meetings_44, i_45, σ_46⟩ _ y27
  try dsimp only at y27 ⊢
  obtain ⟨hσ_46, frσ_46, g26⟩ := y27
  exact wp_some ⟨hσ_46, frσ_46⟩
theorem s_T_hasTooManyParts {σ : SG} {shape_0 : Nat} (hσ : II σ) (hs_shape_0 : isS shape_0) (w0 : SHa σ shape_0) : wp_ (fT_hasTooManyParts σ shape_0) (fun zz_ => True) := by
  unfold fT_hasTooManyParts
  have hpl := iiA_plans hσ hs_shape_0 0
  have hpt := iiA_points hσ hs_shape_0 0
  refine wp_bd (s_T_isOfPoints (σ := σ) (shape_0 := shape_0) hσ (by first | assumption | decide | omega)) ?_
  rintro x_2 - -
  refine wp_if (fun c2 => ?_) (fun c2 => ?_)
  · try simp (disch := omega) only [w32_of, w64_of, w8_of, decide_eq_true_eq, decide_eq_false_iff_not, Bool.not_eq_true] at c2
    exact wp_some trivial
  · try simp (disch := omega) only [w32_of, w64_of, w8_of, decide_eq_true_eq, decide_eq_false_iff_not, Bool.not_eq_true] at c2
    refine wp_bd (P := fun rr_ => (True)) ?_ ?_
    · refine wp_whl (fun ss_ => (∃ f, FLa σ shape_0 ss_.2 f)) (fun ss_ => (2048 - ss_.2).toNat) (by (try dsimp only) <;> (first | exact ⟨_, FLa_0 w0⟩ | (rw [hbh]; exact ⟨_, hn⟩))) ?_
      rintro ⟨parts_4, at_5⟩ y3
      try dsimp only at y3 ⊢
      have gw := y3
      have hle := FLa_le gw.choose_spec
      have c5 := w32_rng (at_5 + 1)
      have c6 := iiA_plans (s := shape_0) hσ (by first | assumption | decide | omega) 0
      have c7 := w32_rng (σ (kA_plans shape_0) 0)
      refine wp_if (fun c4 => ?_) (fun c4 => ?_)
      · try simp (disch := omega) only [w32_of, w64_of, w8_of, decide_eq_true_eq, decide_eq_false_iff_not, Bool.not_eq_true] at c4
        obtain ⟨he, hn, h2, h3, h4, h5, h6⟩ := FLa_hd hσ hs_shape_0 gw.choose_spec (by omega)
        refine wp_bd (s_A_rows (σ := σ) (this_0 := shape_0) (at_0 := at_5) hσ (by first | assumption | decide | omega) he) ?_
        rintro x_15 - ⟨g8, g9⟩
        try simp (disch := omega) only [w32_of, w64_of, w8_of] at g8
        try simp (disch := omega) only [w32_of, w64_of, w8_of] at g9
        refine wp_bd (s_A_behind (σ := σ) (this_0 := shape_0) (at_0 := at_5) hσ (by first | assumption | decide | omega) he) ?_
        rintro x_17 - hbh
        try simp (disch := omega) only [w32_of, w64_of, w8_of] at hbh
        exact wp_some (x_inl ⟨(by (try dsimp only) <;> (first | exact ⟨_, FLa_0 w0⟩ | (rw [hbh]; exact ⟨_, hn⟩))), (by (try dsimp only) <;> first | assumption | omega | ((try simp (disch := omega) only [w32_of, w64_of, w8_of]) <;> first | assumption | omega | (split <;> omega) | (refine And.intro ?_ ?_ <;> split <;> omega)) | omega)⟩)
      · try simp (disch := omega) only [w32_of, w64_of, w8_of, decide_eq_true_eq, decide_eq_false_iff_not, Bool.not_eq_true] at c4
        exact wp_some (x_inr (by (try dsimp only) <;> first | assumption | omega | ((try simp (disch := omega) only [w32_of, w64_of, w8_of]) <;> first | assumption | omega | (split <;> omega) | (refine And.intro ?_ ?_ <;> split <;> omega)) | omega))
    rintro ⟨parts_20, at_21⟩ _ y11
    try dsimp only at y11 ⊢
    have g10 := y11
    exact wp_some trivial
theorem s_T_listRims {σ : SG} {shape_0 : Nat} {owner_0 : Int} (hσ : II σ) (hs_shape_0 : isS shape_0) (w0 : SHa σ shape_0) (w1 : 0 ≤ owner_0 ∧ owner_0 ≤ 1) : wp_ (fT_listRims σ shape_0 owner_0) (fun zz_ => II zz_ ∧ FC [kT_keys, kT_rimOwner, kT_rimX, kT_rimY, kT_rims] [] σ zz_) := by
  unfold fT_listRims
  have hpl := iiA_plans hσ hs_shape_0 0
  have hpt := iiA_points hσ hs_shape_0 0
  refine wp_bd (s_T_isOfLines (σ := σ) (shape_0 := shape_0) hσ (by first | assumption | decide | omega)) ?_
  rintro x_2 - -
  refine wp_if (fun c2 => ?_) (fun c2 => ?_)
  · try simp (disch := omega) only [w32_of, w64_of, w8_of, decide_eq_true_eq, decide_eq_false_iff_not, Bool.not_eq_true] at c2
    refine wp_bd (P := fun rr_ => II rr_.2.2.2 ∧ FC [kT_keys, kT_rimOwner, kT_rimX, kT_rimY, kT_rims] [] σ rr_.2.2.2 ∧ (0 ≤ rr_.1 ∧ rr_.1 ≤ 512)) ?_ ?_
    · refine wp_whl (fun ss_ => II ss_.2.2.2 ∧ FC [kT_keys, kT_rimOwner, kT_rimX, kT_rimY, kT_rims] [] σ ss_.2.2.2 ∧ (0 ≤ ss_.1 ∧ ss_.1 ≤ 512) ∧ (FLa σ shape_0 ss_.2.2.1 ss_.2.1)) (fun ss_ => (2048 - ss_.2.2.1).toNat) ⟨hσ, (FC_refl _ _ _), (by (try dsimp only) <;> first | assumption | omega | ((try simp (disch := omega) only [w32_of, w64_of, w8_of]) <;> first | assumption | omega | (split <;> omega) | (refine And.intro ?_ ?_ <;> split <;> omega)) | omega), (by (try dsimp only) <;> (first | assumption | exact FLa_0 w0 | (rw [hbh, show from_5 + x_17 - 1 + 1 = from_5 + x_17 by omega, hpa]; exact hn)))⟩ ?_
      rintro ⟨size_4, from_5, at_6, σ_7⟩ y4
      try dsimp only at y4 ⊢
      obtain ⟨hσ_7, frσ_7, g3, gw⟩ := y4
      have hle := FLa_le gw
      have c6 := w32_rng (at_6 + 1)
      have c7 := iiA_plans (s := shape_0) hσ_7 (by first | assumption | decide | omega) 0
      have c8 := congrFun (FC_plans (t := shape_0) frσ_7 (by first | assumption | decide | omega) (NS_0 _)) 0
      have c9 := iiA_plans (s := shape_0) hσ (by first | assumption | decide | omega) 0
      have c10 := w32_rng (σ_7 (kA_plans shape_0) 0)
      refine wp_if (fun c5 => ?_) (fun c5 => ?_)
      · try simp (disch := omega) only [w32_of, w64_of, w8_of, decide_eq_true_eq, decide_eq_false_iff_not, Bool.not_eq_true] at c5
        obtain ⟨he, hn, h2, h3, h4, h5, h6⟩ := FLa_hd hσ hs_shape_0 gw (by omega)
        refine wp_bd (s_A_pointsAt (σ := σ_7) (this_0 := shape_0) (at_0 := at_6) hσ_7 (by first | assumption | decide | omega) (ENa_f frσ_7 (by first | assumption | decide | omega) (NS_0 _) he)) ?_
        rintro x_17 - hpa
        try simp only [FC_plan (t := shape_0) frσ_7 (by first | assumption | decide | omega) (NS_0 _)] at hpa
        try simp (disch := omega) only [w32_of, w64_of, w8_of] at hpa
        refine wp_bd (P := fun rr_ => II rr_.2 ∧ FC [kT_keys, kT_rimOwner, kT_rimX, kT_rimY, kT_rims] [] σ rr_.2 ∧ (0 ≤ rr_.1 ∧ rr_.1 ≤ 512)) ?_ ?_
        · have c12 := w32_rng from_5
          have c13 := w32_rng ((from_5 + x_17) - 1)
          refine wp_if (fun c11 => ?_) (fun c11 => ?_)
          · try simp (disch := omega) only [w32_of, w64_of, w8_of, decide_eq_true_eq, decide_eq_false_iff_not, Bool.not_eq_true] at c11
            refine wp_bd (s_A_areLike (σ := σ_7) (this_0 := shape_0) (i_0 := from_5) (j_0 := ((from_5 + x_17) - 1)) hσ_7 (by first | assumption | decide | omega) (by (try dsimp only) <;> first | assumption | omega | ((try simp (disch := omega) only [w32_of, w64_of, w8_of]) <;> first | assumption | omega | (split <;> omega) | (refine And.intro ?_ ?_ <;> split <;> omega)) | omega) (by (try dsimp only) <;> first | assumption | omega | ((try simp (disch := omega) only [w32_of, w64_of, w8_of]) <;> first | assumption | omega | (split <;> omega) | (refine And.intro ?_ ?_ <;> split <;> omega)) | omega)) ?_
            rintro x_34 - g14
            try simp only [FC_x (t := shape_0) frσ_7 (by first | assumption | decide | omega) (NS_0 _)] at g14
            try simp only [FC_y (t := shape_0) frσ_7 (by first | assumption | decide | omega) (NS_0 _)] at g14
            have c15 := iiA_x (s := shape_0) hσ (by first | assumption | decide | omega) from_5
            have c16 := iiA_x (s := shape_0) hσ (by first | assumption | decide | omega) ((from_5 + x_17) - 1)
            have c17 := iiA_y (s := shape_0) hσ (by first | assumption | decide | omega) from_5
            have c18 := iiA_y (s := shape_0) hσ (by first | assumption | decide | omega) ((from_5 + x_17) - 1)
            try simp (disch := omega) only [w32_of, w64_of, w8_of] at g14
            refine wp_if (fun c19 => ?_) (fun c19 => ?_)
            · have k20 := g14.mp c19
              try simp (disch := omega) only [w32_of, w64_of, w8_of] at k20
              try simp (disch := omega) only [w32_of, w64_of, w8_of, decide_eq_true_eq, decide_eq_false_iff_not, Bool.not_eq_true] at c19
              exact wp_some ⟨hσ_7, frσ_7, (by (try dsimp only) <;> first | assumption | omega | ((try simp (disch := omega) only [w32_of, w64_of, w8_of]) <;> first | assumption | omega | (split <;> omega) | (refine And.intro ?_ ?_ <;> split <;> omega)) | omega)⟩
            · have k21 := fun q => c19 (g14.mpr q)
              try simp (disch := omega) only [w32_of, w64_of, w8_of] at k21
              try simp (disch := omega) only [w32_of, w64_of, w8_of, decide_eq_true_eq, decide_eq_false_iff_not, Bool.not_eq_true] at c19
              have c23 := w32_rng (size_4 + 1)
              refine wp_if (fun c22 => ?_) (fun c22 => ?_)
              · try simp (disch := omega) only [w32_of, w64_of, w8_of, decide_eq_true_eq, decide_eq_false_iff_not, Bool.not_eq_true] at c22
                refine wp_rdI (by (try dsimp only) <;> first | assumption | omega | ((try simp (disch := omega) only [w32_of, w64_of, w8_of]) <;> first | assumption | omega | (split <;> omega) | (refine And.intro ?_ ?_ <;> split <;> omega)) | omega) (by (try dsimp only) <;> first | assumption | omega | ((try simp (disch := omega) only [w32_of, w64_of, w8_of]) <;> first | assumption | omega | (split <;> omega) | (refine And.intro ?_ ?_ <;> split <;> omega)) | omega) (fun x_38 e_x_38 => ?_)
                have b_x_38 : (-1000000000) ≤ x_38 ∧ x_38 ≤ 1000000000 := by rw [e_x_38]; exact iiA_x (s := shape_0) hσ_7 (by first | assumption | decide | omega) _
                rw [FC_x (t := shape_0) frσ_7 (by first | assumption | decide | omega) (NS_0 _)] at e_x_38
                try simp (disch := omega) only [w32_of, w64_of, w8_of] at e_x_38
                have c24 := iiA_x (s := shape_0) hσ_7 (by first | assumption | decide | omega) from_5
                have c25 := congrFun (FC_x (t := shape_0) frσ_7 (by first | assumption | decide | omega) (NS_0 _)) from_5
                refine wp_rdI (by (try dsimp only) <;> first | assumption | omega | ((try simp (disch := omega) only [w32_of, w64_of, w8_of]) <;> first | assumption | omega | (split <;> omega) | (refine And.intro ?_ ?_ <;> split <;> omega)) | omega) (by (try dsimp only) <;> first | assumption | omega | ((try simp (disch := omega) only [w32_of, w64_of, w8_of]) <;> first | assumption | omega | (split <;> omega) | (refine And.intro ?_ ?_ <;> split <;> omega)) | omega) (fun x_40 e_x_40 => ?_)
                have b_x_40 : (-1000000000) ≤ x_40 ∧ x_40 ≤ 1000000000 := by rw [e_x_40]; exact iiA_y (s := shape_0) hσ_7 (by first | assumption | decide | omega) _
                rw [FC_y (t := shape_0) frσ_7 (by first | assumption | decide | omega) (NS_0 _)] at e_x_40
                try simp (disch := omega) only [w32_of, w64_of, w8_of] at e_x_40
                have c26 := iiA_y (s := shape_0) hσ_7 (by first | assumption | decide | omega) from_5
                have c27 := congrFun (FC_y (t := shape_0) frσ_7 (by first | assumption | decide | omega) (NS_0 _)) from_5
                have c28 := w32_rng size_4
                refine wp_waN hσ_7 b_kT_keys (by (try dsimp only) <;> first | assumption | omega | ((try simp (disch := omega) only [w32_of, w64_of, w8_of]) <;> first | assumption | omega | (split <;> omega) | (refine And.intro ?_ ?_ <;> split <;> omega)) | omega) (by (try dsimp only) <;> first | assumption | omega | ((try simp (disch := omega) only [w32_of, w64_of, w8_of]) <;> first | assumption | omega | (split <;> omega) | (refine And.intro ?_ ?_ <;> split <;> omega)) | omega) (fun σ_42 hσ_42 eσ_42 => ?_)
                try simp (disch := omega) only [w32_of, w64_of, w8_of] at eσ_42
                have flσ_42 := FC_sg eσ_42 (by first | decide | (rcases hE with rfl | rfl | rfl <;> decide))
                have frσ_42 : FC [kT_keys, kT_rimOwner, kT_rimX, kT_rimY, kT_rims] [] σ σ_42 := FC_tr frσ_7 flσ_42 (by first | decide | (rcases hE with rfl | rfl | rfl <;> decide)) (by first | decide | (rcases hE with rfl | rfl | rfl <;> decide)) (by simp) (by simp)
                refine wp_rdI (by (try dsimp only) <;> first | assumption | omega | ((try simp (disch := omega) only [w32_of, w64_of, w8_of]) <;> first | assumption | omega | (split <;> omega) | (refine And.intro ?_ ?_ <;> split <;> omega)) | omega) (by (try dsimp only) <;> first | assumption | omega | ((try simp (disch := omega) only [w32_of, w64_of, w8_of]) <;> first | assumption | omega | (split <;> omega) | (refine And.intro ?_ ?_ <;> split <;> omega)) | omega) (fun x_44 e_x_44 => ?_)
                have b_x_44 : (-1000000000) ≤ x_44 ∧ x_44 ≤ 1000000000 := by rw [e_x_44]; exact iiA_x (s := shape_0) hσ_42 (by first | assumption | decide | omega) _
                rw [FC_x (t := shape_0) frσ_42 (by first | assumption | decide | omega) (NS_0 _)] at e_x_44
                try simp (disch := omega) only [w32_of, w64_of, w8_of] at e_x_44
                have c29 := iiA_x (s := shape_0) hσ_42 (by first | assumption | decide | omega) ((from_5 + x_17) - 1)
                have c30 := congrFun (FC_x (t := shape_0) flσ_42 (by first | assumption | decide | omega) (NS_0 _)) ((from_5 + x_17) - 1)
                have c31 := iiA_x (s := shape_0) hσ_7 (by first | assumption | decide | omega) ((from_5 + x_17) - 1)
                have c32 := congrFun (FC_x (t := shape_0) frσ_7 (by first | assumption | decide | omega) (NS_0 _)) ((from_5 + x_17) - 1)
                refine wp_rdI (by (try dsimp only) <;> first | assumption | omega | ((try simp (disch := omega) only [w32_of, w64_of, w8_of]) <;> first | assumption | omega | (split <;> omega) | (refine And.intro ?_ ?_ <;> split <;> omega)) | omega) (by (try dsimp only) <;> first | assumption | omega | ((try simp (disch := omega) only [w32_of, w64_of, w8_of]) <;> first | assumption | omega | (split <;> omega) | (refine And.intro ?_ ?_ <;> split <;> omega)) | omega) (fun x_46 e_x_46 => ?_)
                have b_x_46 : (-1000000000) ≤ x_46 ∧ x_46 ≤ 1000000000 := by rw [e_x_46]; exact iiA_y (s := shape_0) hσ_42 (by first | assumption | decide | omega) _
                rw [FC_y (t := shape_0) frσ_42 (by first | assumption | decide | omega) (NS_0 _)] at e_x_46
                try simp (disch := omega) only [w32_of, w64_of, w8_of] at e_x_46
                have c33 := iiA_y (s := shape_0) hσ_42 (by first | assumption | decide | omega) ((from_5 + x_17) - 1)
                have c34 := congrFun (FC_y (t := shape_0) flσ_42 (by first | assumption | decide | omega) (NS_0 _)) ((from_5 + x_17) - 1)
                have c35 := iiA_y (s := shape_0) hσ_7 (by first | assumption | decide | omega) ((from_5 + x_17) - 1)
                have c36 := congrFun (FC_y (t := shape_0) frσ_7 (by first | assumption | decide | omega) (NS_0 _)) ((from_5 + x_17) - 1)
                refine wp_waN hσ_42 b_kT_keys (by (try dsimp only) <;> first | assumption | omega | ((try simp (disch := omega) only [w32_of, w64_of, w8_of]) <;> first | assumption | omega | (split <;> omega) | (refine And.intro ?_ ?_ <;> split <;> omega)) | omega) (by (try dsimp only) <;> first | assumption | omega | ((try simp (disch := omega) only [w32_of, w64_of, w8_of]) <;> first | assumption | omega | (split <;> omega) | (refine And.intro ?_ ?_ <;> split <;> omega)) | omega) (fun σ_48 hσ_48 eσ_48 => ?_)
                try simp (disch := omega) only [w32_of, w64_of, w8_of] at eσ_48
                have flσ_48 := FC_sg eσ_48 (by first | decide | (rcases hE with rfl | rfl | rfl <;> decide))
                have frσ_48 : FC [kT_keys, kT_rimOwner, kT_rimX, kT_rimY, kT_rims] [] σ σ_48 := FC_tr frσ_42 flσ_48 (by first | decide | (rcases hE with rfl | rfl | rfl <;> decide)) (by first | decide | (rcases hE with rfl | rfl | rfl <;> decide)) (by simp) (by simp)
                exact wp_some ⟨hσ_48, frσ_48, (by (try dsimp only) <;> first | assumption | omega | ((try simp (disch := omega) only [w32_of, w64_of, w8_of]) <;> first | assumption | omega | (split <;> omega) | (refine And.intro ?_ ?_ <;> split <;> omega)) | omega)⟩
              · try simp (disch := omega) only [w32_of, w64_of, w8_of, decide_eq_true_eq, decide_eq_false_iff_not, Bool.not_eq_true] at c22
                exact wp_some ⟨hσ_7, frσ_7, (by (try dsimp only) <;> first | assumption | omega | ((try simp (disch := omega) only [w32_of, w64_of, w8_of]) <;> first | assumption | omega | (split <;> omega) | (refine And.intro ?_ ?_ <;> split <;> omega)) | omega)⟩
          · try simp (disch := omega) only [w32_of, w64_of, w8_of, decide_eq_true_eq, decide_eq_false_iff_not, Bool.not_eq_true] at c11
            exact wp_some ⟨hσ_7, frσ_7, (by (try dsimp only) <;> first | assumption | omega | ((try simp (disch := omega) only [w32_of, w64_of, w8_of]) <;> first | assumption | omega | (split <;> omega) | (refine And.intro ?_ ?_ <;> split <;> omega)) | omega)⟩
        rintro ⟨size_53, σ_54⟩ _ y38
        try dsimp only at y38 ⊢
        obtain ⟨hσ_54, frσ_54, g37⟩ := y38
        refine wp_bd (s_A_behind (σ := σ_54) (this_0 := shape_0) (at_0 := at_6) hσ_54 (by first | assumption | decide | omega) (ENa_f frσ_54 (by first | assumption | decide | omega) (NS_0 _) he)) ?_
        rintro x_56 - hbh
        try simp only [FC_plan (t := shape_0) frσ_54 (by first | assumption | decide | omega) (NS_0 _)] at hbh
        try simp (disch := omega) only [w32_of, w64_of, w8_of] at hbh
        exact wp_some (x_inl ⟨⟨hσ_54, frσ_54, (by (try dsimp only) <;> first | assumption | omega | ((try simp (disch := omega) only [w32_of, w64_of, w8_of]) <;> first | assumption | omega | (split <;> omega) | (refine And.intro ?_ ?_ <;> split <;> omega)) | omega), (by (try dsimp only) <;> (first | assumption | exact FLa_0 w0 | (rw [hbh, show from_5 + x_17 - 1 + 1 = from_5 + x_17 by omega, hpa]; exact hn)))⟩, (by (try dsimp only) <;> first | assumption | omega | ((try simp (disch := omega) only [w32_of, w64_of, w8_of]) <;> first | assumption | omega | (split <;> omega) | (refine And.intro ?_ ?_ <;> split <;> omega)) | omega)⟩)
      · try simp (disch := omega) only [w32_of, w64_of, w8_of, decide_eq_true_eq, decide_eq_false_iff_not, Bool.not_eq_true] at c5
        exact wp_some (x_inr ⟨hσ_7, frσ_7, (by (try dsimp only) <;> first | assumption | omega | ((try simp (disch := omega) only [w32_of, w64_of, w8_of]) <;> first | assumption | omega | (split <;> omega) | (refine And.intro ?_ ?_ <;> split <;> omega)) | omega)⟩)
    rintro ⟨size_60, from_61, at_62, σ_63⟩ _ y40
    try dsimp only at y40 ⊢
    obtain ⟨hσ_63, frσ_63, g39⟩ := y40
    refine wp_bd (v_sortRow (σ := σ_63) (row_0 := 230) (row_n := 512) (size_0 := size_60) hσ_63 (by decide) (by decide) (by (try dsimp only) <;> first | assumption | omega | ((try simp (disch := omega) only [w32_of, w64_of, w8_of]) <;> first | assumption | omega | (split <;> omega) | (refine And.intro ?_ ?_ <;> split <;> omega)) | omega)) ?_
    rintro σ_65 - ⟨hσ_65, flσ_65, g41⟩
    have frσ_65 : FC [kT_keys, kT_rimOwner, kT_rimX, kT_rimY, kT_rims] [] σ σ_65 := FC_tr frσ_63 flσ_65 (by first | decide | (rcases hE with rfl | rfl | rfl <;> decide)) (by first | decide | (rcases hE with rfl | rfl | rfl <;> decide)) (by simp) (by simp)
    try simp (disch := omega) only [w32_of, w64_of, w8_of] at g41
    refine wp_bd (P := fun rr_ => II rr_.2.2 ∧ FC [kT_keys, kT_rimOwner, kT_rimX, kT_rimY, kT_rims] [] σ rr_.2.2 ∧ (True)) ?_ ?_
    · refine wp_whl (fun ss_ => II ss_.2.2 ∧ FC [kT_keys, kT_rimOwner, kT_rimX, kT_rimY, kT_rims] [] σ ss_.2.2 ∧ (0 ≤ ss_.2.1 ∧ ss_.2.1 ≤ 512)) (fun ss_ => (513 - ss_.2.1).toNat) ⟨hσ_65, frσ_65, (by (try dsimp only) <;> first | assumption | omega | ((try simp (disch := omega) only [w32_of, w64_of, w8_of]) <;> first | assumption | omega | (split <;> omega) | (refine And.intro ?_ ?_ <;> split <;> omega)) | omega)⟩ ?_
      rintro ⟨odd_66, i_67, σ_68⟩ y43
      try dsimp only at y43 ⊢
      obtain ⟨hσ_68, frσ_68, g42⟩ := y43
      have c45 := w32_rng i_67
      have c46 := w32_rng size_60
      refine wp_if (fun c44 => ?_) (fun c44 => ?_)
      · try simp (disch := omega) only [w32_of, w64_of, w8_of, decide_eq_true_eq, decide_eq_false_iff_not, Bool.not_eq_true] at c44
        refine wp_bd (P := fun rr_ => True) ?_ ?_
        · have c48 := w32_rng (i_67 + 1)
          refine wp_if (fun c47 => ?_) (fun c47 => ?_)
          · try simp (disch := omega) only [w32_of, w64_of, w8_of, decide_eq_true_eq, decide_eq_false_iff_not, Bool.not_eq_true] at c47
            refine wp_rdI (by (try dsimp only) <;> first | assumption | omega | ((try simp (disch := omega) only [w32_of, w64_of, w8_of]) <;> first | assumption | omega | (split <;> omega) | (refine And.intro ?_ ?_ <;> split <;> omega)) | omega) (by (try dsimp only) <;> first | assumption | omega | ((try simp (disch := omega) only [w32_of, w64_of, w8_of]) <;> first | assumption | omega | (split <;> omega) | (refine And.intro ?_ ?_ <;> split <;> omega)) | omega) (fun x_115 e_x_115 => ?_)
            try simp (disch := omega) only [w32_of, w64_of, w8_of] at e_x_115
            refine wp_rdI (by (try dsimp only) <;> first | assumption | omega | ((try simp (disch := omega) only [w32_of, w64_of, w8_of]) <;> first | assumption | omega | (split <;> omega) | (refine And.intro ?_ ?_ <;> split <;> omega)) | omega) (by (try dsimp only) <;> first | assumption | omega | ((try simp (disch := omega) only [w32_of, w64_of, w8_of]) <;> first | assumption | omega | (split <;> omega) | (refine And.intro ?_ ?_ <;> split <;> omega)) | omega) (fun x_117 e_x_117 => ?_)
            try simp (disch := omega) only [w32_of, w64_of, w8_of] at e_x_117
            have c50 := w64_rng x_115
            have c51 := w64_rng x_117
            refine wp_if (fun c49 => ?_) (fun c49 => ?_)
            · try simp (disch := omega) only [w32_of, w64_of, w8_of, decide_eq_true_eq, decide_eq_false_iff_not, Bool.not_eq_true] at c49
              exact wp_some trivial
            · try simp (disch := omega) only [w32_of, w64_of, w8_of, decide_eq_true_eq, decide_eq_false_iff_not, Bool.not_eq_true] at c49
              exact wp_some trivial
          · try simp (disch := omega) only [w32_of, w64_of, w8_of, decide_eq_true_eq, decide_eq_false_iff_not, Bool.not_eq_true] at c47
            exact wp_some trivial
        rintro b_123 _ -
        refine wp_if (fun c52 => ?_) (fun c52 => ?_)
        · try simp (disch := omega) only [w32_of, w64_of, w8_of, decide_eq_true_eq, decide_eq_false_iff_not, Bool.not_eq_true] at c52
          exact wp_some (x_inl ⟨⟨hσ_68, frσ_68, (by (try dsimp only) <;> first | assumption | omega | ((try simp (disch := omega) only [w32_of, w64_of, w8_of]) <;> first | assumption | omega | (split <;> omega) | (refine And.intro ?_ ?_ <;> split <;> omega)) | omega)⟩, (by (try dsimp only) <;> first | assumption | omega | ((try simp (disch := omega) only [w32_of, w64_of, w8_of]) <;> first | assumption | omega | (split <;> omega) | (refine And.intro ?_ ?_ <;> split <;> omega)) | omega)⟩)
        · try simp (disch := omega) only [w32_of, w64_of, w8_of, decide_eq_true_eq, decide_eq_false_iff_not, Bool.not_eq_true] at c52
          refine wp_bd (P := fun rr_ => II rr_ ∧ FC [kT_keys, kT_rimOwner, kT_rimX, kT_rimY, kT_rims] [] σ rr_) ?_ ?_
          · have c54 := ii_kT_rims hσ_68 0
            have c55 := w32_rng (σ_68 kT_rims 0)
            refine wp_if (fun c53 => ?_) (fun c53 => ?_)
            · try simp (disch := omega) only [w32_of, w64_of, w8_of, decide_eq_true_eq, decide_eq_false_iff_not, Bool.not_eq_true] at c53
              refine wp_rdI (by (try dsimp only) <;> first | assumption | omega | ((try simp (disch := omega) only [w32_of, w64_of, w8_of]) <;> first | assumption | omega | (split <;> omega) | (refine And.intro ?_ ?_ <;> split <;> omega)) | omega) (by (try dsimp only) <;> first | assumption | omega | ((try simp (disch := omega) only [w32_of, w64_of, w8_of]) <;> first | assumption | omega | (split <;> omega) | (refine And.intro ?_ ?_ <;> split <;> omega)) | omega) (fun x_129 e_x_129 => ?_)
              try simp (disch := omega) only [w32_of, w64_of, w8_of] at e_x_129
              refine wp_waN hσ_68 b_kT_rimX (by (try dsimp only) <;> first | assumption | omega | ((try simp (disch := omega) only [w32_of, w64_of, w8_of]) <;> first | assumption | omega | (split <;> omega) | (refine And.intro ?_ ?_ <;> split <;> omega)) | omega) (by (try dsimp only) <;> first | assumption | omega | ((try simp (disch := omega) only [w32_of, w64_of, w8_of]) <;> first | assumption | omega | (split <;> omega) | (refine And.intro ?_ ?_ <;> split <;> omega)) | omega) (fun σ_131 hσ_131 eσ_131 => ?_)
              try simp (disch := omega) only [w32_of, w64_of, w8_of] at eσ_131
              have flσ_131 := FC_sg eσ_131 (by first | decide | (rcases hE with rfl | rfl | rfl <;> decide))
              have frσ_131 : FC [kT_keys, kT_rimOwner, kT_rimX, kT_rimY, kT_rims] [] σ σ_131 := FC_tr frσ_68 flσ_131 (by first | decide | (rcases hE with rfl | rfl | rfl <;> decide)) (by first | decide | (rcases hE with rfl | rfl | rfl <;> decide)) (by simp) (by simp)
              refine wp_rdI (by (try dsimp only) <;> first | assumption | omega | ((try simp (disch := omega) only [w32_of, w64_of, w8_of]) <;> first | assumption | omega | (split <;> omega) | (refine And.intro ?_ ?_ <;> split <;> omega)) | omega) (by (try dsimp only) <;> first | assumption | omega | ((try simp (disch := omega) only [w32_of, w64_of, w8_of]) <;> first | assumption | omega | (split <;> omega) | (refine And.intro ?_ ?_ <;> split <;> omega)) | omega) (fun x_133 e_x_133 => ?_)
              try simp (disch := omega) only [w32_of, w64_of, w8_of] at e_x_133
              have c56 := FC_at flσ_131 (c := kT_keys) (by first | decide | (rcases hE with rfl | rfl | rfl <;> decide)) i_67
              have c57 := ii_kT_rims hσ_131 0
              have c58 := FC_at flσ_131 (c := kT_rims) (by first | decide | (rcases hE with rfl | rfl | rfl <;> decide)) 0
              have c59 := w32_rng (σ_131 kT_rims 0)
              refine wp_waN hσ_131 b_kT_rimY (by (try dsimp only) <;> first | assumption | omega | ((try simp (disch := omega) only [w32_of, w64_of, w8_of]) <;> first | assumption | omega | (split <;> omega) | (refine And.intro ?_ ?_ <;> split <;> omega)) | omega) (by (try dsimp only) <;> first | assumption | omega | ((try simp (disch := omega) only [w32_of, w64_of, w8_of]) <;> first | assumption | omega | (split <;> omega) | (refine And.intro ?_ ?_ <;> split <;> omega)) | omega) (fun σ_135 hσ_135 eσ_135 => ?_)
              try simp (disch := omega) only [w32_of, w64_of, w8_of] at eσ_135
              have flσ_135 := FC_sg eσ_135 (by first | decide | (rcases hE with rfl | rfl | rfl <;> decide))
              have frσ_135 : FC [kT_keys, kT_rimOwner, kT_rimX, kT_rimY, kT_rims] [] σ σ_135 := FC_tr frσ_131 flσ_135 (by first | decide | (rcases hE with rfl | rfl | rfl <;> decide)) (by first | decide | (rcases hE with rfl | rfl | rfl <;> decide)) (by simp) (by simp)
              have c60 := ii_kT_rims hσ_135 0
              have c61 := FC_at flσ_135 (c := kT_rims) (by first | decide | (rcases hE with rfl | rfl | rfl <;> decide)) 0
              have c62 := w32_rng (σ_135 kT_rims 0)
              refine wp_waI hσ_135 b_kT_rimOwner (by (try dsimp only) <;> first | assumption | omega | ((try simp (disch := omega) only [w32_of, w64_of, w8_of]) <;> first | assumption | omega | (split <;> omega) | (refine And.intro ?_ ?_ <;> split <;> omega)) | omega) (by (try dsimp only) <;> first | assumption | omega | ((try simp (disch := omega) only [w32_of, w64_of, w8_of]) <;> first | assumption | omega | (split <;> omega) | (refine And.intro ?_ ?_ <;> split <;> omega)) | omega) (by (try dsimp only) <;> first | assumption | omega | ((try simp (disch := omega) only [w32_of, w64_of, w8_of]) <;> first | assumption | omega | (split <;> omega) | (refine And.intro ?_ ?_ <;> split <;> omega)) | omega) (fun σ_137 hσ_137 eσ_137 => ?_)
              try simp (disch := omega) only [w32_of, w64_of, w8_of] at eσ_137
              have flσ_137 := FC_sg eσ_137 (by first | decide | (rcases hE with rfl | rfl | rfl <;> decide))
              have frσ_137 : FC [kT_keys, kT_rimOwner, kT_rimX, kT_rimY, kT_rims] [] σ σ_137 := FC_tr frσ_135 flσ_137 (by first | decide | (rcases hE with rfl | rfl | rfl <;> decide)) (by first | decide | (rcases hE with rfl | rfl | rfl <;> decide)) (by simp) (by simp)
              have c63 := ii_kT_rims hσ_137 0
              have c64 := FC_at flσ_137 (c := kT_rims) (by first | decide | (rcases hE with rfl | rfl | rfl <;> decide)) 0
              refine wp_wfI hσ_137 b_kT_rims (by (try dsimp only) <;> first | assumption | omega | ((try simp (disch := omega) only [w32_of, w64_of, w8_of]) <;> first | assumption | omega | (split <;> omega) | (refine And.intro ?_ ?_ <;> split <;> omega)) | omega) (fun σ_139 hσ_139 eσ_139 => ?_)
              try simp (disch := omega) only [w32_of, w64_of, w8_of] at eσ_139
              have flσ_139 := FC_sg eσ_139 (by first | decide | (rcases hE with rfl | rfl | rfl <;> decide))
              have frσ_139 : FC [kT_keys, kT_rimOwner, kT_rimX, kT_rimY, kT_rims] [] σ σ_139 := FC_tr frσ_137 flσ_139 (by first | decide | (rcases hE with rfl | rfl | rfl <;> decide)) (by first | decide | (rcases hE with rfl | rfl | rfl <;> decide)) (by simp) (by simp)
              exact wp_some ⟨hσ_139, frσ_139⟩
            · try simp (disch := omega) only [w32_of, w64_of, w8_of, decide_eq_true_eq, decide_eq_false_iff_not, Bool.not_eq_true] at c53
              exact wp_some ⟨hσ_68, frσ_68⟩
          rintro σ_149 _ ⟨hσ_149, frσ_149⟩
          exact wp_some (x_inl ⟨⟨hσ_149, frσ_149, (by (try dsimp only) <;> first | assumption | omega | ((try simp (disch := omega) only [w32_of, w64_of, w8_of]) <;> first | assumption | omega | (split <;> omega) | (refine And.intro ?_ ?_ <;> split <;> omega)) | omega)⟩, (by (try dsimp only) <;> first | assumption | omega | ((try simp (disch := omega) only [w32_of, w64_of, w8_of]) <;> first | assumption | omega | (split <;> omega) | (refine And.intro ?_ ?_ <;> split <;> omega)) | omega)⟩)
      · try simp (disch := omega) only [w32_of, w64_of, w8_of, decide_eq_true_eq, decide_eq_false_iff_not, Bool.not_eq_true] at c44
        exact wp_some (x_inr ⟨hσ_68, frσ_68, (by (try dsimp only) <;> first | assumption | omega | ((try simp (disch := omega) only [w32_of, w64_of, w8_of]) <;> first | assumption | omega | (split <;> omega) | (refine And.intro ?_ ?_ <;> split <;> omega)) | omega)⟩)
    rintro ⟨odd_159, i_160, σ_161⟩ _ y66
    try dsimp only at y66 ⊢
    obtain ⟨hσ_161, frσ_161, g65⟩ := y66
    exact wp_some ⟨hσ_161, frσ_161⟩
  · try simp (disch := omega) only [w32_of, w64_of, w8_of, decide_eq_true_eq, decide_eq_false_iff_not, Bool.not_eq_true] at c2
    exact wp_some ⟨hσ, (FC_refl _ _ _)⟩
theorem s_T_fillMatrix {σ : SG} {one_0 : Nat} {two_0 : Nat} (hσ : II σ) (hs_one_0 : isS one_0) (hs_two_0 : isS two_0) (w0 : SHa σ one_0) (w1 : SHa σ two_0) : wp_ (fT_fillMatrix σ one_0 two_0) (fun zz_ => II zz_.2 ∧ FC [57344, 57600, 57856, 58112, 58368, (kE_size 223), (kE_placeX 223), (kE_placeY 223), kT_covers, kT_crossed, kT_cuts, kT_keys, kT_matrix, kT_rimOwner, kT_rimX, kT_rimY, kT_rims, kT_share, kT_whole] [] σ zz_.2) := by
  unfold fT_fillMatrix
  refine wp_wfI hσ (bE_size (s := 223) (by decide)) (by (try dsimp only) <;> first | assumption | omega | ((try simp (disch := omega) only [w32_of, w64_of, w8_of]) <;> first | assumption | omega | (split <;> omega) | (refine And.intro ?_ ?_ <;> split <;> omega)) | omega) (fun σ_1 hσ_1 eσ_1 => ?_)
  try simp (disch := omega) only [w32_of, w64_of, w8_of] at eσ_1
  have flσ_1 := FC_sg eσ_1 (by first | decide | (rcases hE with rfl | rfl | rfl <;> decide))
  have frσ_1 : FC [57344, 57600, 57856, 58112, 58368, (kE_size 223), (kE_placeX 223), (kE_placeY 223), kT_covers, kT_crossed, kT_cuts, kT_keys, kT_matrix, kT_rimOwner, kT_rimX, kT_rimY, kT_rims, kT_share, kT_whole] [] σ σ_1 := FC_le flσ_1 (by first | decide | (rcases hE with rfl | rfl | rfl <;> decide)) (by simp)
  refine wp_bd (s_T_hasTooManyParts (σ := σ_1) (shape_0 := one_0) hσ_1 (by first | assumption | decide | omega) (SHa_f flσ_1 (by first | assumption | decide | omega) (NS_0 _) w0)) ?_
  rintro x_27 - -
  refine wp_if (fun c2 => ?_) (fun c2 => ?_)
  · try simp (disch := omega) only [w32_of, w64_of, w8_of, decide_eq_true_eq, decide_eq_false_iff_not, Bool.not_eq_true] at c2
    exact wp_some ⟨hσ_1, frσ_1⟩
  · try simp (disch := omega) only [w32_of, w64_of, w8_of, decide_eq_true_eq, decide_eq_false_iff_not, Bool.not_eq_true] at c2
    refine wp_bd (s_T_hasTooManyParts (σ := σ_1) (shape_0 := two_0) hσ_1 (by first | assumption | decide | omega) (SHa_f flσ_1 (by first | assumption | decide | omega) (NS_0 _) w1)) ?_
    rintro x_30 - -
    refine wp_if (fun c4 => ?_) (fun c4 => ?_)
    · try simp (disch := omega) only [w32_of, w64_of, w8_of, decide_eq_true_eq, decide_eq_false_iff_not, Bool.not_eq_true] at c4
      exact wp_some ⟨hσ_1, frσ_1⟩
    · try simp (disch := omega) only [w32_of, w64_of, w8_of, decide_eq_true_eq, decide_eq_false_iff_not, Bool.not_eq_true] at c4
      have c5 := iiE_size (s := 223) hσ_1 (by decide) 0
      have c6 := sg_val eσ_1
      refine wp_bd (s_T_collect (σ := σ_1) (shape_0 := one_0) (owner_0 := 0) hσ_1 (by first | assumption | decide | omega) (SHa_f flσ_1 (by first | assumption | decide | omega) (NS_0 _) w0) (by (try dsimp only) <;> first | assumption | omega | ((try simp (disch := omega) only [w32_of, w64_of, w8_of]) <;> first | assumption | omega | (split <;> omega) | (refine And.intro ?_ ?_ <;> split <;> omega)) | omega) (by (try dsimp only) <;> first | assumption | omega | ((try simp (disch := omega) only [w32_of, w64_of, w8_of]) <;> first | assumption | omega | (split <;> omega) | (refine And.intro ?_ ?_ <;> split <;> omega)) | omega)) ?_
      rintro ⟨x_34, σ_33⟩ - y8
      try dsimp only at y8 ⊢
      obtain ⟨hσ_33, flσ_33, g7⟩ := y8
      have frσ_33 : FC [57344, 57600, 57856, 58112, 58368, (kE_size 223), (kE_placeX 223), (kE_placeY 223), kT_covers, kT_crossed, kT_cuts, kT_keys, kT_matrix, kT_rimOwner, kT_rimX, kT_rimY, kT_rims, kT_share, kT_whole] [] σ σ_33 := FC_tr frσ_1 flσ_33 (by first | decide | (rcases hE with rfl | rfl | rfl <;> decide)) (by first | decide | (rcases hE with rfl | rfl | rfl <;> decide)) (by simp) (by simp)
      have c9 := iiE_size (s := 223) hσ_33 (by decide) 0
      try simp (disch := omega) only [w32_of, w64_of, w8_of] at g7
      refine wp_if (fun c10 => ?_) (fun c10 => ?_)
      · try simp (disch := omega) only [w32_of, w64_of, w8_of, decide_eq_true_eq, decide_eq_false_iff_not, Bool.not_eq_true] at c10
        refine wp_bd (s_T_collect (σ := σ_33) (shape_0 := two_0) (owner_0 := 1) hσ_33 (by first | assumption | decide | omega) (SHa_f flσ_33 (by first | assumption | decide | omega) (NS_0 _) (SHa_f flσ_1 (by first | assumption | decide | omega) (NS_0 _) w1)) (by (try dsimp only) <;> first | assumption | omega | ((try simp (disch := omega) only [w32_of, w64_of, w8_of]) <;> first | assumption | omega | (split <;> omega) | (refine And.intro ?_ ?_ <;> split <;> omega)) | omega) (by (try dsimp only) <;> first | assumption | omega | ((try simp (disch := omega) only [w32_of, w64_of, w8_of]) <;> first | assumption | omega | (split <;> omega) | (refine And.intro ?_ ?_ <;> split <;> omega)) | omega)) ?_
        rintro ⟨x_38, σ_37⟩ - y12
        try dsimp only at y12 ⊢
        obtain ⟨hσ_37, flσ_37, g11⟩ := y12
        have frσ_37 : FC [57344, 57600, 57856, 58112, 58368, (kE_size 223), (kE_placeX 223), (kE_placeY 223), kT_covers, kT_crossed, kT_cuts, kT_keys, kT_matrix, kT_rimOwner, kT_rimX, kT_rimY, kT_rims, kT_share, kT_whole] [] σ σ_37 := FC_tr frσ_33 flσ_37 (by first | decide | (rcases hE with rfl | rfl | rfl <;> decide)) (by first | decide | (rcases hE with rfl | rfl | rfl <;> decide)) (by simp) (by simp)
        have c13 := iiE_size (s := 223) hσ_37 (by decide) 0
        try simp (disch := omega) only [w32_of, w64_of, w8_of] at g11
        refine wp_if (fun c14 => ?_) (fun c14 => ?_)
        · try simp (disch := omega) only [w32_of, w64_of, w8_of, decide_eq_true_eq, decide_eq_false_iff_not, Bool.not_eq_true] at c14
          refine wp_bd (s_T_hasTooManyMeetings (σ := σ_37) hσ_37 (by (try dsimp only) <;> first | assumption | omega | ((try simp (disch := omega) only [w32_of, w64_of, w8_of]) <;> first | assumption | omega | (split <;> omega) | (refine And.intro ?_ ?_ <;> split <;> omega)) | omega)) ?_
          rintro ⟨x_42, σ_41⟩ - y15
          try dsimp only at y15 ⊢
          obtain ⟨hσ_41, flσ_41⟩ := y15
          have frσ_41 : FC [57344, 57600, 57856, 58112, 58368, (kE_size 223), (kE_placeX 223), (kE_placeY 223), kT_covers, kT_crossed, kT_cuts, kT_keys, kT_matrix, kT_rimOwner, kT_rimX, kT_rimY, kT_rims, kT_share, kT_whole] [] σ σ_41 := FC_tr frσ_37 flσ_41 (by first | decide | (rcases hE with rfl | rfl | rfl <;> decide)) (by first | decide | (rcases hE with rfl | rfl | rfl <;> decide)) (by simp) (by simp)
          refine wp_if (fun c16 => ?_) (fun c16 => ?_)
          · try simp (disch := omega) only [w32_of, w64_of, w8_of, decide_eq_true_eq, decide_eq_false_iff_not, Bool.not_eq_true] at c16
            exact wp_some ⟨hσ_41, frσ_41⟩
          · try simp (disch := omega) only [w32_of, w64_of, w8_of, decide_eq_true_eq, decide_eq_false_iff_not, Bool.not_eq_true] at c16
            refine wp_lt (fun σ_44 e_σ_44 => ?_)
            have hσ_44 : II σ_44 := by rw [e_σ_44]; exact II_nEi hσ_41
            have flσ_44 : FC [kT_matrix] [] σ_41 σ_44 := by rw [e_σ_44]; exact FC_nEi _
            have frσ_44 : FC [57344, 57600, 57856, 58112, 58368, (kE_size 223), (kE_placeX 223), (kE_placeY 223), kT_covers, kT_crossed, kT_cuts, kT_keys, kT_matrix, kT_rimOwner, kT_rimX, kT_rimY, kT_rims, kT_share, kT_whole] [] σ σ_44 := FC_tr frσ_41 flσ_44 (by first | decide | (rcases hE with rfl | rfl | rfl <;> decide)) (by first | decide | (rcases hE with rfl | rfl | rfl <;> decide)) (by simp) (by simp)
            refine wp_wfI hσ_44 b_kT_rims (by (try dsimp only) <;> first | assumption | omega | ((try simp (disch := omega) only [w32_of, w64_of, w8_of]) <;> first | assumption | omega | (split <;> omega) | (refine And.intro ?_ ?_ <;> split <;> omega)) | omega) (fun σ_45 hσ_45 eσ_45 => ?_)
            try simp (disch := omega) only [w32_of, w64_of, w8_of] at eσ_45
            have flσ_45 := FC_sg eσ_45 (by first | decide | (rcases hE with rfl | rfl | rfl <;> decide))
            have frσ_45 : FC [57344, 57600, 57856, 58112, 58368, (kE_size 223), (kE_placeX 223), (kE_placeY 223), kT_covers, kT_crossed, kT_cuts, kT_keys, kT_matrix, kT_rimOwner, kT_rimX, kT_rimY, kT_rims, kT_share, kT_whole] [] σ σ_45 := FC_tr frσ_44 flσ_45 (by first | decide | (rcases hE with rfl | rfl | rfl <;> decide)) (by first | decide | (rcases hE with rfl | rfl | rfl <;> decide)) (by simp) (by simp)
            refine wp_bd (s_T_listRims (σ := σ_45) (shape_0 := one_0) (owner_0 := 0) hσ_45 (by first | assumption | decide | omega) (SHa_f flσ_45 (by first | assumption | decide | omega) (NS_0 _) (SHa_f flσ_44 (by first | assumption | decide | omega) (NS_0 _) (SHa_f flσ_41 (by first | assumption | decide | omega) (NS_0 _) (SHa_f flσ_37 (by first | assumption | decide | omega) (NS_0 _) (SHa_f flσ_33 (by first | assumption | decide | omega) (NS_0 _) (SHa_f flσ_1 (by first | assumption | decide | omega) (NS_0 _) w0)))))) (by (try dsimp only) <;> first | assumption | omega | ((try simp (disch := omega) only [w32_of, w64_of, w8_of]) <;> first | assumption | omega | (split <;> omega) | (refine And.intro ?_ ?_ <;> split <;> omega)) | omega)) ?_
            rintro σ_47 - ⟨hσ_47, flσ_47⟩
            have frσ_47 : FC [57344, 57600, 57856, 58112, 58368, (kE_size 223), (kE_placeX 223), (kE_placeY 223), kT_covers, kT_crossed, kT_cuts, kT_keys, kT_matrix, kT_rimOwner, kT_rimX, kT_rimY, kT_rims, kT_share, kT_whole] [] σ σ_47 := FC_tr frσ_45 flσ_47 (by first | decide | (rcases hE with rfl | rfl | rfl <;> decide)) (by first | decide | (rcases hE with rfl | rfl | rfl <;> decide)) (by simp) (by simp)
            refine wp_bd (s_T_listRims (σ := σ_47) (shape_0 := two_0) (owner_0 := 1) hσ_47 (by first | assumption | decide | omega) (SHa_f flσ_47 (by first | assumption | decide | omega) (NS_0 _) (SHa_f flσ_45 (by first | assumption | decide | omega) (NS_0 _) (SHa_f flσ_44 (by first | assumption | decide | omega) (NS_0 _) (SHa_f flσ_41 (by first | assumption | decide | omega) (NS_0 _) (SHa_f flσ_37 (by first | assumption | decide | omega) (NS_0 _) (SHa_f flσ_33 (by first | assumption | decide | omega) (NS_0 _) (SHa_f flσ_1 (by first | assumption | decide | omega) (NS_0 _) w1))))))) (by (try dsimp only) <;> first | assumption | omega | ((try simp (disch := omega) only [w32_of, w64_of, w8_of]) <;> first | assumption | omega | (split <;> omega) | (refine And.intro ?_ ?_ <;> split <;> omega)) | omega)) ?_
            rintro σ_49 - ⟨hσ_49, flσ_49⟩
            have frσ_49 : FC [57344, 57600, 57856, 58112, 58368, (kE_size 223), (kE_placeX 223), (kE_placeY 223), kT_covers, kT_crossed, kT_cuts, kT_keys, kT_matrix, kT_rimOwner, kT_rimX, kT_rimY, kT_rims, kT_share, kT_whole] [] σ σ_49 := FC_tr frσ_47 flσ_49 (by first | decide | (rcases hE with rfl | rfl | rfl <;> decide)) (by first | decide | (rcases hE with rfl | rfl | rfl <;> decide)) (by simp) (by simp)
            refine wp_bd (P := fun rr_ => II rr_.2 ∧ FC [57344, 57600, 57856, 58112, 58368, (kE_size 223), (kE_placeX 223), (kE_placeY 223), kT_covers, kT_crossed, kT_cuts, kT_keys, kT_matrix, kT_rimOwner, kT_rimX, kT_rimY, kT_rims, kT_share, kT_whole] [] σ rr_.2 ∧ (rr_.2 (kE_size 223) 0 ≤ 256)) ?_ ?_
            · have c17 := iiE_size (s := 223) hσ_49 (by decide) 0
              have c18 := FC_at flσ_49 (c := (kE_size 223)) (by first | decide | (rcases hE with rfl | rfl | rfl <;> decide)) 0
              have c19 := iiE_size (s := 223) hσ_47 (by decide) 0
              have c20 := FC_at flσ_47 (c := (kE_size 223)) (by first | decide | (rcases hE with rfl | rfl | rfl <;> decide)) 0
              have c21 := iiE_size (s := 223) hσ_45 (by decide) 0
              have c22 := FC_at flσ_45 (c := (kE_size 223)) (by first | decide | (rcases hE with rfl | rfl | rfl <;> decide)) 0
              have c23 := iiE_size (s := 223) hσ_44 (by decide) 0
              have c24 := FC_at flσ_44 (c := (kE_size 223)) (by first | decide | (rcases hE with rfl | rfl | rfl <;> decide)) 0
              have c25 := iiE_size (s := 223) hσ_41 (by decide) 0
              have c26 := FC_at flσ_41 (c := (kE_size 223)) (by first | decide | (rcases hE with rfl | rfl | rfl <;> decide)) 0
              refine wp_whl (fun ss_ => II ss_.2 ∧ FC [57344, 57600, 57856, 58112, 58368, (kE_size 223), (kE_placeX 223), (kE_placeY 223), kT_covers, kT_crossed, kT_cuts, kT_keys, kT_matrix, kT_rimOwner, kT_rimX, kT_rimY, kT_rims, kT_share, kT_whole] [] σ ss_.2 ∧ (0 ≤ ss_.1 ∧ ss_.1 ≤ 256) ∧ (ss_.2 (kE_size 223) 0 ≤ 256)) (fun ss_ => (257 - ss_.1).toNat) ⟨hσ_49, frσ_49, (by (try dsimp only) <;> first | assumption | omega | ((try simp (disch := omega) only [w32_of, w64_of, w8_of]) <;> first | assumption | omega | (split <;> omega) | (refine And.intro ?_ ?_ <;> split <;> omega)) | omega), (by (try dsimp only) <;> first | assumption | omega | ((try simp (disch := omega) only [w32_of, w64_of, w8_of]) <;> first | assumption | omega | (split <;> omega) | (refine And.intro ?_ ?_ <;> split <;> omega)) | omega)⟩ ?_
              rintro ⟨i_50, σ_51⟩ y29
              try dsimp only at y29 ⊢
              obtain ⟨hσ_51, frσ_51, g27, g28⟩ := y29
              have c31 := w32_rng i_50
              have c32 := iiE_size (s := 223) hσ_51 (by decide) 0
              have c33 := w32_rng (σ_51 (kE_size 223) 0)
              refine wp_if (fun c30 => ?_) (fun c30 => ?_)
              · try simp (disch := omega) only [w32_of, w64_of, w8_of, decide_eq_true_eq, decide_eq_false_iff_not, Bool.not_eq_true] at c30
                refine wp_bd (s_T_addEdges (σ := σ_51) (one_0 := one_0) (two_0 := two_0) (i_0 := i_50) hσ_51 (by first | assumption | decide | omega) (by first | assumption | decide | omega) (by (try dsimp only) <;> first | assumption | omega | ((try simp (disch := omega) only [w32_of, w64_of, w8_of]) <;> first | assumption | omega | (split <;> omega) | (refine And.intro ?_ ?_ <;> split <;> omega)) | omega) (by (try dsimp only) <;> first | assumption | omega | ((try simp (disch := omega) only [w32_of, w64_of, w8_of]) <;> first | assumption | omega | (split <;> omega) | (refine And.intro ?_ ?_ <;> split <;> omega)) | omega)) ?_
                rintro σ_61 - ⟨hσ_61, flσ_61⟩
                have frσ_61 : FC [57344, 57600, 57856, 58112, 58368, (kE_size 223), (kE_placeX 223), (kE_placeY 223), kT_covers, kT_crossed, kT_cuts, kT_keys, kT_matrix, kT_rimOwner, kT_rimX, kT_rimY, kT_rims, kT_share, kT_whole] [] σ σ_61 := FC_tr frσ_51 flσ_61 (by first | decide | (rcases hE with rfl | rfl | rfl <;> decide)) (by first | decide | (rcases hE with rfl | rfl | rfl <;> decide)) (by simp) (by simp)
                have c34 := iiE_size (s := 223) hσ_61 (by decide) 0
                have c35 := FC_at flσ_61 (c := (kE_size 223)) (by first | decide | (rcases hE with rfl | rfl | rfl <;> decide)) 0
                exact wp_some (x_inl ⟨⟨hσ_61, frσ_61, (by (try dsimp only) <;> first | assumption | omega | ((try simp (disch := omega) only [w32_of, w64_of, w8_of]) <;> first | assumption | omega | (split <;> omega) | (refine And.intro ?_ ?_ <;> split <;> omega)) | omega), (by (try dsimp only) <;> first | assumption | omega | ((try simp (disch := omega) only [w32_of, w64_of, w8_of]) <;> first | assumption | omega | (split <;> omega) | (refine And.intro ?_ ?_ <;> split <;> omega)) | omega)⟩, (by (try dsimp only) <;> first | assumption | omega | ((try simp (disch := omega) only [w32_of, w64_of, w8_of]) <;> first | assumption | omega | (split <;> omega) | (refine And.intro ?_ ?_ <;> split <;> omega)) | omega)⟩)
              · try simp (disch := omega) only [w32_of, w64_of, w8_of, decide_eq_true_eq, decide_eq_false_iff_not, Bool.not_eq_true] at c30
                exact wp_some (x_inr ⟨hσ_51, frσ_51, (by (try dsimp only) <;> first | assumption | omega | ((try simp (disch := omega) only [w32_of, w64_of, w8_of]) <;> first | assumption | omega | (split <;> omega) | (refine And.intro ?_ ?_ <;> split <;> omega)) | omega)⟩)
            rintro ⟨i_64, σ_65⟩ _ y37
            try dsimp only at y37 ⊢
            obtain ⟨hσ_65, frσ_65, g36⟩ := y37
            have c38 := iiE_size (s := 223) hσ_65 (by decide) 0
            refine wp_bd (s_T_addMeetings (σ := σ_65) (one_0 := one_0) (two_0 := two_0) hσ_65 (by first | assumption | decide | omega) (by first | assumption | decide | omega) (by (try dsimp only) <;> first | assumption | omega | ((try simp (disch := omega) only [w32_of, w64_of, w8_of]) <;> first | assumption | omega | (split <;> omega) | (refine And.intro ?_ ?_ <;> split <;> omega)) | omega)) ?_
            rintro σ_67 - ⟨hσ_67, flσ_67⟩
            have frσ_67 : FC [57344, 57600, 57856, 58112, 58368, (kE_size 223), (kE_placeX 223), (kE_placeY 223), kT_covers, kT_crossed, kT_cuts, kT_keys, kT_matrix, kT_rimOwner, kT_rimX, kT_rimY, kT_rims, kT_share, kT_whole] [] σ σ_67 := FC_tr frσ_65 flσ_67 (by first | decide | (rcases hE with rfl | rfl | rfl <;> decide)) (by first | decide | (rcases hE with rfl | rfl | rfl <;> decide)) (by simp) (by simp)
            refine wp_bd (P := fun rr_ => II rr_.2 ∧ FC [57344, 57600, 57856, 58112, 58368, (kE_size 223), (kE_placeX 223), (kE_placeY 223), kT_covers, kT_crossed, kT_cuts, kT_keys, kT_matrix, kT_rimOwner, kT_rimX, kT_rimY, kT_rims, kT_share, kT_whole] [] σ rr_.2 ∧ (True)) ?_ ?_
            · refine wp_whl (fun ss_ => II ss_.2 ∧ FC [57344, 57600, 57856, 58112, 58368, (kE_size 223), (kE_placeX 223), (kE_placeY 223), kT_covers, kT_crossed, kT_cuts, kT_keys, kT_matrix, kT_rimOwner, kT_rimX, kT_rimY, kT_rims, kT_share, kT_whole] [] σ ss_.2 ∧ (0 ≤ ss_.1 ∧ ss_.1 ≤ 512)) (fun ss_ => (513 - ss_.1).toNat) ⟨hσ_67, frσ_67, (by (try dsimp only) <;> first | assumption | omega | ((try simp (disch := omega) only [w32_of, w64_of, w8_of]) <;> first | assumption | omega | (split <;> omega) | (refine And.intro ?_ ?_ <;> split <;> omega)) | omega)⟩ ?_
              rintro ⟨k_68, σ_69⟩ y40
              try dsimp only at y40 ⊢
              obtain ⟨hσ_69, frσ_69, g39⟩ := y40
              have c42 := w32_rng k_68
              have c43 := ii_kT_rims hσ_69 0
              have c44 := w32_rng (σ_69 kT_rims 0)
              refine wp_if (fun c41 => ?_) (fun c41 => ?_)
              · try simp (disch := omega) only [w32_of, w64_of, w8_of, decide_eq_true_eq, decide_eq_false_iff_not, Bool.not_eq_true] at c41
                refine wp_bd (P := fun rr_ => True) ?_ ?_
                · refine wp_rdI (by (try dsimp only) <;> first | assumption | omega | ((try simp (disch := omega) only [w32_of, w64_of, w8_of]) <;> first | assumption | omega | (split <;> omega) | (refine And.intro ?_ ?_ <;> split <;> omega)) | omega) (by (try dsimp only) <;> first | assumption | omega | ((try simp (disch := omega) only [w32_of, w64_of, w8_of]) <;> first | assumption | omega | (split <;> omega) | (refine And.intro ?_ ?_ <;> split <;> omega)) | omega) (fun x_78 e_x_78 => ?_)
                  have b_x_78 : 0 ≤ x_78 ∧ x_78 ≤ 1 := by rw [e_x_78]; exact ii_kT_rimOwner hσ_69 _
                  try simp (disch := omega) only [w32_of, w64_of, w8_of] at e_x_78
                  have c45 := ii_kT_rimOwner hσ_69 k_68
                  have c47 := w32_rng x_78
                  refine wp_if (fun c46 => ?_) (fun c46 => ?_)
                  · try simp (disch := omega) only [w32_of, w64_of, w8_of, decide_eq_true_eq, decide_eq_false_iff_not, Bool.not_eq_true] at c46
                    exact wp_some trivial
                  · try simp (disch := omega) only [w32_of, w64_of, w8_of, decide_eq_true_eq, decide_eq_false_iff_not, Bool.not_eq_true] at c46
                    exact wp_some trivial
                rintro x_83 _ -
                refine wp_bd (P := fun rr_ => (0 ≤ rr_ ∧ rr_ ≤ 2) ∧ (0 ≤ rr_ ∧ rr_ ≤ 2)) ?_ ?_
                · refine wp_if (fun c48 => ?_) (fun c48 => ?_)
                  · try simp (disch := omega) only [w32_of, w64_of, w8_of, decide_eq_true_eq, decide_eq_false_iff_not, Bool.not_eq_true] at c48
                    exact wp_some ⟨(by (try dsimp only) <;> first | assumption | omega | ((try simp (disch := omega) only [w32_of, w64_of, w8_of]) <;> first | assumption | omega | (split <;> omega) | (refine And.intro ?_ ?_ <;> split <;> omega)) | omega), (by (try dsimp only) <;> first | assumption | omega | ((try simp (disch := omega) only [w32_of, w64_of, w8_of]) <;> first | assumption | omega | (split <;> omega) | (refine And.intro ?_ ?_ <;> split <;> omega)) | omega)⟩
                  · try simp (disch := omega) only [w32_of, w64_of, w8_of, decide_eq_true_eq, decide_eq_false_iff_not, Bool.not_eq_true] at c48
                    refine wp_rdI (by (try dsimp only) <;> first | assumption | omega | ((try simp (disch := omega) only [w32_of, w64_of, w8_of]) <;> first | assumption | omega | (split <;> omega) | (refine And.intro ?_ ?_ <;> split <;> omega)) | omega) (by (try dsimp only) <;> first | assumption | omega | ((try simp (disch := omega) only [w32_of, w64_of, w8_of]) <;> first | assumption | omega | (split <;> omega) | (refine And.intro ?_ ?_ <;> split <;> omega)) | omega) (fun x_92 e_x_92 => ?_)
                    try simp (disch := omega) only [w32_of, w64_of, w8_of] at e_x_92
                    refine wp_rdI (by (try dsimp only) <;> first | assumption | omega | ((try simp (disch := omega) only [w32_of, w64_of, w8_of]) <;> first | assumption | omega | (split <;> omega) | (refine And.intro ?_ ?_ <;> split <;> omega)) | omega) (by (try dsimp only) <;> first | assumption | omega | ((try simp (disch := omega) only [w32_of, w64_of, w8_of]) <;> first | assumption | omega | (split <;> omega) | (refine And.intro ?_ ?_ <;> split <;> omega)) | omega) (fun x_94 e_x_94 => ?_)
                    try simp (disch := omega) only [w32_of, w64_of, w8_of] at e_x_94
                    refine wp_bd (s_T_whereIs (σ := σ_69) (shape_0 := one_0) (x_0 := x_92) (y_0 := x_94) hσ_69 (by first | assumption | decide | omega) (SHa_f frσ_69 (by first | assumption | decide | omega) (NS_0 _) w0)) ?_
                    rintro x_97 - g49
                    try simp (disch := omega) only [w32_of, w64_of, w8_of] at g49
                    exact wp_some ⟨(by (try dsimp only) <;> first | assumption | omega | ((try simp (disch := omega) only [w32_of, w64_of, w8_of]) <;> first | assumption | omega | (split <;> omega) | (refine And.intro ?_ ?_ <;> split <;> omega)) | omega), (by (try dsimp only) <;> first | assumption | omega | ((try simp (disch := omega) only [w32_of, w64_of, w8_of]) <;> first | assumption | omega | (split <;> omega) | (refine And.intro ?_ ?_ <;> split <;> omega)) | omega)⟩
                rintro x_99 _ ⟨g50, g51⟩
                refine wp_bd (P := fun rr_ => (0 ≤ rr_ ∧ rr_ ≤ 2) ∧ (0 ≤ rr_ ∧ rr_ ≤ 2)) ?_ ?_
                · refine wp_if (fun c52 => ?_) (fun c52 => ?_)
                  · try simp (disch := omega) only [w32_of, w64_of, w8_of, decide_eq_true_eq, decide_eq_false_iff_not, Bool.not_eq_true] at c52
                    refine wp_rdI (by (try dsimp only) <;> first | assumption | omega | ((try simp (disch := omega) only [w32_of, w64_of, w8_of]) <;> first | assumption | omega | (split <;> omega) | (refine And.intro ?_ ?_ <;> split <;> omega)) | omega) (by (try dsimp only) <;> first | assumption | omega | ((try simp (disch := omega) only [w32_of, w64_of, w8_of]) <;> first | assumption | omega | (split <;> omega) | (refine And.intro ?_ ?_ <;> split <;> omega)) | omega) (fun x_107 e_x_107 => ?_)
                    try simp (disch := omega) only [w32_of, w64_of, w8_of] at e_x_107
                    refine wp_rdI (by (try dsimp only) <;> first | assumption | omega | ((try simp (disch := omega) only [w32_of, w64_of, w8_of]) <;> first | assumption | omega | (split <;> omega) | (refine And.intro ?_ ?_ <;> split <;> omega)) | omega) (by (try dsimp only) <;> first | assumption | omega | ((try simp (disch := omega) only [w32_of, w64_of, w8_of]) <;> first | assumption | omega | (split <;> omega) | (refine And.intro ?_ ?_ <;> split <;> omega)) | omega) (fun x_109 e_x_109 => ?_)
                    try simp (disch := omega) only [w32_of, w64_of, w8_of] at e_x_109
                    refine wp_bd (s_T_whereIs (σ := σ_69) (shape_0 := two_0) (x_0 := x_107) (y_0 := x_109) hσ_69 (by first | assumption | decide | omega) (SHa_f frσ_69 (by first | assumption | decide | omega) (NS_0 _) w1)) ?_
                    rintro x_112 - g53
                    try simp (disch := omega) only [w32_of, w64_of, w8_of] at g53
                    exact wp_some ⟨(by (try dsimp only) <;> first | assumption | omega | ((try simp (disch := omega) only [w32_of, w64_of, w8_of]) <;> first | assumption | omega | (split <;> omega) | (refine And.intro ?_ ?_ <;> split <;> omega)) | omega), (by (try dsimp only) <;> first | assumption | omega | ((try simp (disch := omega) only [w32_of, w64_of, w8_of]) <;> first | assumption | omega | (split <;> omega) | (refine And.intro ?_ ?_ <;> split <;> omega)) | omega)⟩
                  · try simp (disch := omega) only [w32_of, w64_of, w8_of, decide_eq_true_eq, decide_eq_false_iff_not, Bool.not_eq_true] at c52
                    exact wp_some ⟨(by (try dsimp only) <;> first | assumption | omega | ((try simp (disch := omega) only [w32_of, w64_of, w8_of]) <;> first | assumption | omega | (split <;> omega) | (refine And.intro ?_ ?_ <;> split <;> omega)) | omega), (by (try dsimp only) <;> first | assumption | omega | ((try simp (disch := omega) only [w32_of, w64_of, w8_of]) <;> first | assumption | omega | (split <;> omega) | (refine And.intro ?_ ?_ <;> split <;> omega)) | omega)⟩
                rintro x_115 _ ⟨g54, g55⟩
                refine wp_bd (s_T_raise (σ := σ_69) (first_0 := x_99) (second_0 := x_115) (dimension_0 := 0) hσ_69 (by (try dsimp only) <;> first | assumption | omega | ((try simp (disch := omega) only [w32_of, w64_of, w8_of]) <;> first | assumption | omega | (split <;> omega) | (refine And.intro ?_ ?_ <;> split <;> omega)) | omega) (by (try dsimp only) <;> first | assumption | omega | ((try simp (disch := omega) only [w32_of, w64_of, w8_of]) <;> first | assumption | omega | (split <;> omega) | (refine And.intro ?_ ?_ <;> split <;> omega)) | omega) (by (try dsimp only) <;> first | assumption | omega | ((try simp (disch := omega) only [w32_of, w64_of, w8_of]) <;> first | assumption | omega | (split <;> omega) | (refine And.intro ?_ ?_ <;> split <;> omega)) | omega)) ?_
                rintro σ_117 - ⟨hσ_117, flσ_117⟩
                have frσ_117 : FC [57344, 57600, 57856, 58112, 58368, (kE_size 223), (kE_placeX 223), (kE_placeY 223), kT_covers, kT_crossed, kT_cuts, kT_keys, kT_matrix, kT_rimOwner, kT_rimX, kT_rimY, kT_rims, kT_share, kT_whole] [] σ σ_117 := FC_tr frσ_69 flσ_117 (by first | decide | (rcases hE with rfl | rfl | rfl <;> decide)) (by first | decide | (rcases hE with rfl | rfl | rfl <;> decide)) (by simp) (by simp)
                exact wp_some (x_inl ⟨⟨hσ_117, frσ_117, (by (try dsimp only) <;> first | assumption | omega | ((try simp (disch := omega) only [w32_of, w64_of, w8_of]) <;> first | assumption | omega | (split <;> omega) | (refine And.intro ?_ ?_ <;> split <;> omega)) | omega)⟩, (by (try dsimp only) <;> first | assumption | omega | ((try simp (disch := omega) only [w32_of, w64_of, w8_of]) <;> first | assumption | omega | (split <;> omega) | (refine And.intro ?_ ?_ <;> split <;> omega)) | omega)⟩)
              · try simp (disch := omega) only [w32_of, w64_of, w8_of, decide_eq_true_eq, decide_eq_false_iff_not, Bool.not_eq_true] at c41
                exact wp_some (x_inr ⟨hσ_69, frσ_69, (by (try dsimp only) <;> first | assumption | omega | ((try simp (disch := omega) only [w32_of, w64_of, w8_of]) <;> first | assumption | omega | (split <;> omega) | (refine And.intro ?_ ?_ <;> split <;> omega)) | omega)⟩)
            rintro ⟨k_132, σ_133⟩ _ y57
            try dsimp only at y57 ⊢
            obtain ⟨hσ_133, frσ_133, g56⟩ := y57
            refine wp_bd (s_T_addPoints (σ := σ_133) (one_0 := one_0) (two_0 := two_0) hσ_133 (by first | assumption | decide | omega) (by first | assumption | decide | omega) (SHa_f frσ_133 (by first | assumption | decide | omega) (NS_0 _) w0) (SHa_f frσ_133 (by first | assumption | decide | omega) (NS_0 _) w1)) ?_
            rintro σ_135 - ⟨hσ_135, flσ_135⟩
            have frσ_135 : FC [57344, 57600, 57856, 58112, 58368, (kE_size 223), (kE_placeX 223), (kE_placeY 223), kT_covers, kT_crossed, kT_cuts, kT_keys, kT_matrix, kT_rimOwner, kT_rimX, kT_rimY, kT_rims, kT_share, kT_whole] [] σ σ_135 := FC_tr frσ_133 flσ_135 (by first | decide | (rcases hE with rfl | rfl | rfl <;> decide)) (by first | decide | (rcases hE with rfl | rfl | rfl <;> decide)) (by simp) (by simp)
            exact wp_some ⟨hσ_135, frσ_135⟩
        · try simp (disch := omega) only [w32_of, w64_of, w8_of, decide_eq_true_eq, decide_eq_false_iff_not, Bool.not_eq_true] at c14
          exact wp_some ⟨hσ_37, frσ_37⟩
      · try simp (disch := omega) only [w32_of, w64_of, w8_of, decide_eq_true_eq, decide_eq_false_iff_not, Bool.not_eq_true] at c10
        exact wp_some ⟨hσ_33, frσ_33⟩
