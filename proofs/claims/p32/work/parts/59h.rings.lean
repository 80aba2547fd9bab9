theorem s_G_turnAt {σ : SG} {a_0 : Int} {b_0 : Int} {c_0 : Int} (hσ : II σ) (w0 : 0 ≤ a_0 ∧ a_0 ≤ 8191) (w1 : 0 ≤ b_0 ∧ b_0 ≤ 8191) (w2 : 0 ≤ c_0 ∧ c_0 ≤ 8191) : wp_ (fG_turnAt σ a_0 b_0 c_0) (fun zz_ => (-1 ≤ zz_ ∧ zz_ ≤ 1)) := by
  unfold fG_turnAt
  have c1 := w32_rng a_0
  refine wp_rdI (by (try dsimp only) <;> first | assumption | omega | ((try simp (disch := omega) only [w32_of, w64_of, w8_of]) <;> first | assumption | omega | (split <;> omega) | (refine And.intro ?_ ?_ <;> split <;> omega)) | omega) (by (try dsimp only) <;> first | assumption | omega | ((try simp (disch := omega) only [w32_of, w64_of, w8_of]) <;> first | assumption | omega | (split <;> omega) | (refine And.intro ?_ ?_ <;> split <;> omega)) | omega) (fun x_1 e_x_1 => ?_)
  have b_x_1 : (-1000000000) ≤ x_1 ∧ x_1 ≤ 1000000000 := by rw [e_x_1]; exact ii_kN_hotX hσ _
  try simp (disch := omega) only [w32_of, w64_of, w8_of] at e_x_1
  have c2 := ii_kN_hotX hσ a_0
  refine wp_rdI (by (try dsimp only) <;> first | assumption | omega | ((try simp (disch := omega) only [w32_of, w64_of, w8_of]) <;> first | assumption | omega | (split <;> omega) | (refine And.intro ?_ ?_ <;> split <;> omega)) | omega) (by (try dsimp only) <;> first | assumption | omega | ((try simp (disch := omega) only [w32_of, w64_of, w8_of]) <;> first | assumption | omega | (split <;> omega) | (refine And.intro ?_ ?_ <;> split <;> omega)) | omega) (fun x_3 e_x_3 => ?_)
  have b_x_3 : (-1000000000) ≤ x_3 ∧ x_3 ≤ 1000000000 := by rw [e_x_3]; exact ii_kN_hotY hσ _
  try simp (disch := omega) only [w32_of, w64_of, w8_of] at e_x_3
  have c3 := ii_kN_hotY hσ a_0
  have c4 := w32_rng b_0
  refine wp_rdI (by (try dsimp only) <;> first | assumption | omega | ((try simp (disch := omega) only [w32_of, w64_of, w8_of]) <;> first | assumption | omega | (split <;> omega) | (refine And.intro ?_ ?_ <;> split <;> omega)) | omega) (by (try dsimp only) <;> first | assumption | omega | ((try simp (disch := omega) only [w32_of, w64_of, w8_of]) <;> first | assumption | omega | (split <;> omega) | (refine And.intro ?_ ?_ <;> split <;> omega)) | omega) (fun x_5 e_x_5 => ?_)
  have b_x_5 : (-1000000000) ≤ x_5 ∧ x_5 ≤ 1000000000 := by rw [e_x_5]; exact ii_kN_hotX hσ _
  try simp (disch := omega) only [w32_of, w64_of, w8_of] at e_x_5
  have c5 := ii_kN_hotX hσ b_0
  refine wp_rdI (by (try dsimp only) <;> first | assumption | omega | ((try simp (disch := omega) only [w32_of, w64_of, w8_of]) <;> first | assumption | omega | (split <;> omega) | (refine And.intro ?_ ?_ <;> split <;> omega)) | omega) (by (try dsimp only) <;> first | assumption | omega | ((try simp (disch := omega) only [w32_of, w64_of, w8_of]) <;> first | assumption | omega | (split <;> omega) | (refine And.intro ?_ ?_ <;> split <;> omega)) | omega) (fun x_7 e_x_7 => ?_)
  have b_x_7 : (-1000000000) ≤ x_7 ∧ x_7 ≤ 1000000000 := by rw [e_x_7]; exact ii_kN_hotY hσ _
  try simp (disch := omega) only [w32_of, w64_of, w8_of] at e_x_7
  have c6 := ii_kN_hotY hσ b_0
  have c7 := w32_rng c_0
  refine wp_rdI (by (try dsimp only) <;> first | assumption | omega | ((try simp (disch := omega) only [w32_of, w64_of, w8_of]) <;> first | assumption | omega | (split <;> omega) | (refine And.intro ?_ ?_ <;> split <;> omega)) | omega) (by (try dsimp only) <;> first | assumption | omega | ((try simp (disch := omega) only [w32_of, w64_of, w8_of]) <;> first | assumption | omega | (split <;> omega) | (refine And.intro ?_ ?_ <;> split <;> omega)) | omega) (fun x_9 e_x_9 => ?_)
  have b_x_9 : (-1000000000) ≤ x_9 ∧ x_9 ≤ 1000000000 := by rw [e_x_9]; exact ii_kN_hotX hσ _
  try simp (disch := omega) only [w32_of, w64_of, w8_of] at e_x_9
  have c8 := ii_kN_hotX hσ c_0
  refine wp_rdI (by (try dsimp only) <;> first | assumption | omega | ((try simp (disch := omega) only [w32_of, w64_of, w8_of]) <;> first | assumption | omega | (split <;> omega) | (refine And.intro ?_ ?_ <;> split <;> omega)) | omega) (by (try dsimp only) <;> first | assumption | omega | ((try simp (disch := omega) only [w32_of, w64_of, w8_of]) <;> first | assumption | omega | (split <;> omega) | (refine And.intro ?_ ?_ <;> split <;> omega)) | omega) (fun x_11 e_x_11 => ?_)
  have b_x_11 : (-1000000000) ≤ x_11 ∧ x_11 ≤ 1000000000 := by rw [e_x_11]; exact ii_kN_hotY hσ _
  try simp (disch := omega) only [w32_of, w64_of, w8_of] at e_x_11
  have c9 := ii_kN_hotY hσ c_0
  exact wp_some (by (try dsimp only) <;> (exact turnOf_b _ _ _ _ _ _))
theorem s_G_whereIs {σ : SG} {ring_0 : Int} {x_0 : Int} {y_0 : Int} (hσ : II σ) (w0 : 0 ≤ ring_0 ∧ ring_0 ≤ 511) : wp_ (fG_whereIs σ ring_0 x_0 y_0) (fun zz_ => (0 ≤ zz_ ∧ zz_ ≤ 2)) := by
  unfold fG_whereIs
  have c1 := w32_rng ring_0
  refine wp_rdI (by (try dsimp only) <;> first | assumption | omega | ((try simp (disch := omega) only [w32_of, w64_of, w8_of]) <;> first | assumption | omega | (split <;> omega) | (refine And.intro ?_ ?_ <;> split <;> omega)) | omega) (by (try dsimp only) <;> first | assumption | omega | ((try simp (disch := omega) only [w32_of, w64_of, w8_of]) <;> first | assumption | omega | (split <;> omega) | (refine And.intro ?_ ?_ <;> split <;> omega)) | omega) (fun x_1 e_x_1 => ?_)
  have b_x_1 : 0 ≤ x_1 ∧ x_1 ≤ 2048 := by rw [e_x_1]; exact ii_kG_ringBegin hσ _
  try simp (disch := omega) only [w32_of, w64_of, w8_of] at e_x_1
  have c2 := ii_kG_ringBegin hσ ring_0
  refine wp_bx (P := fun rr_ => (0 ≤ rr_.2 ∧ rr_.2 ≤ 2048)) ?_ ?_
  · refine wp_whl (fun ss_ => (x_1 ≤ ss_.2 ∧ ss_.2 ≤ 2048)) (fun ss_ => (2049 - ss_.2).toNat) (by (try dsimp only) <;> first | assumption | omega | ((try simp (disch := omega) only [w32_of, w64_of, w8_of]) <;> first | assumption | omega | (split <;> omega) | (refine And.intro ?_ ?_ <;> split <;> omega)) | omega) ?_
    rintro ⟨odd_3, k_4⟩ y4
    try dsimp only at y4 ⊢
    have g3 := y4
    have c5 := w32_rng (ring_0 + 1)
    refine wp_rdI (by (try dsimp only) <;> first | assumption | omega | ((try simp (disch := omega) only [w32_of, w64_of, w8_of]) <;> first | assumption | omega | (split <;> omega) | (refine And.intro ?_ ?_ <;> split <;> omega)) | omega) (by (try dsimp only) <;> first | assumption | omega | ((try simp (disch := omega) only [w32_of, w64_of, w8_of]) <;> first | assumption | omega | (split <;> omega) | (refine And.intro ?_ ?_ <;> split <;> omega)) | omega) (fun x_12 e_x_12 => ?_)
    have b_x_12 : 0 ≤ x_12 ∧ x_12 ≤ 2048 := by rw [e_x_12]; exact ii_kG_ringBegin hσ _
    try simp (disch := omega) only [w32_of, w64_of, w8_of] at e_x_12
    have c6 := ii_kG_ringBegin hσ (ring_0 + 1)
    have c8 := w32_rng k_4
    have c9 := w32_rng x_12
    refine wp_if (fun c7 => ?_) (fun c7 => ?_)
    · try simp (disch := omega) only [w32_of, w64_of, w8_of, decide_eq_true_eq, decide_eq_false_iff_not, Bool.not_eq_true] at c7
      refine wp_rdI (by (try dsimp only) <;> first | assumption | omega | ((try simp (disch := omega) only [w32_of, w64_of, w8_of]) <;> first | assumption | omega | (split <;> omega) | (refine And.intro ?_ ?_ <;> split <;> omega)) | omega) (by (try dsimp only) <;> first | assumption | omega | ((try simp (disch := omega) only [w32_of, w64_of, w8_of]) <;> first | assumption | omega | (split <;> omega) | (refine And.intro ?_ ?_ <;> split <;> omega)) | omega) (fun x_15 e_x_15 => ?_)
      have b_x_15 : 0 ≤ x_15 ∧ x_15 ≤ 8191 := by rw [e_x_15]; exact ii_kG_corner hσ _
      try simp (disch := omega) only [w32_of, w64_of, w8_of] at e_x_15
      have c10 := ii_kG_corner hσ k_4
      refine wp_bd (P := fun rr_ => (0 ≤ rr_ ∧ rr_ ≤ 8191)) ?_ ?_
      · refine wp_rdI (by (try dsimp only) <;> first | assumption | omega | ((try simp (disch := omega) only [w32_of, w64_of, w8_of]) <;> first | assumption | omega | (split <;> omega) | (refine And.intro ?_ ?_ <;> split <;> omega)) | omega) (by (try dsimp only) <;> first | assumption | omega | ((try simp (disch := omega) only [w32_of, w64_of, w8_of]) <;> first | assumption | omega | (split <;> omega) | (refine And.intro ?_ ?_ <;> split <;> omega)) | omega) (fun x_17 e_x_17 => ?_)
        have b_x_17 : 0 ≤ x_17 ∧ x_17 ≤ 2048 := by rw [e_x_17]; exact ii_kG_ringBegin hσ _
        try simp (disch := omega) only [w32_of, w64_of, w8_of] at e_x_17
        have c12 := w32_rng (k_4 + 1)
        have c13 := w32_rng x_17
        refine wp_if (fun c11 => ?_) (fun c11 => ?_)
        · try simp (disch := omega) only [w32_of, w64_of, w8_of, decide_eq_true_eq, decide_eq_false_iff_not, Bool.not_eq_true] at c11
          refine wp_rdI (by (try dsimp only) <;> first | assumption | omega | ((try simp (disch := omega) only [w32_of, w64_of, w8_of]) <;> first | assumption | omega | (split <;> omega) | (refine And.intro ?_ ?_ <;> split <;> omega)) | omega) (by (try dsimp only) <;> first | assumption | omega | ((try simp (disch := omega) only [w32_of, w64_of, w8_of]) <;> first | assumption | omega | (split <;> omega) | (refine And.intro ?_ ?_ <;> split <;> omega)) | omega) (fun x_20 e_x_20 => ?_)
          have b_x_20 : 0 ≤ x_20 ∧ x_20 ≤ 8191 := by rw [e_x_20]; exact ii_kG_corner hσ _
          try simp (disch := omega) only [w32_of, w64_of, w8_of] at e_x_20
          have c14 := ii_kG_corner hσ (k_4 + 1)
          exact wp_some (by (try dsimp only) <;> first | assumption | omega | ((try simp (disch := omega) only [w32_of, w64_of, w8_of]) <;> first | assumption | omega | (split <;> omega) | (refine And.intro ?_ ?_ <;> split <;> omega)) | omega)
        · try simp (disch := omega) only [w32_of, w64_of, w8_of, decide_eq_true_eq, decide_eq_false_iff_not, Bool.not_eq_true] at c11
          refine wp_rdI (by (try dsimp only) <;> first | assumption | omega | ((try simp (disch := omega) only [w32_of, w64_of, w8_of]) <;> first | assumption | omega | (split <;> omega) | (refine And.intro ?_ ?_ <;> split <;> omega)) | omega) (by (try dsimp only) <;> first | assumption | omega | ((try simp (disch := omega) only [w32_of, w64_of, w8_of]) <;> first | assumption | omega | (split <;> omega) | (refine And.intro ?_ ?_ <;> split <;> omega)) | omega) (fun x_23 e_x_23 => ?_)
          have b_x_23 : 0 ≤ x_23 ∧ x_23 ≤ 2048 := by rw [e_x_23]; exact ii_kG_ringBegin hσ _
          try simp (disch := omega) only [w32_of, w64_of, w8_of] at e_x_23
          have c15 := w32_rng x_23
          refine wp_rdI (by (try dsimp only) <;> first | assumption | omega | ((try simp (disch := omega) only [w32_of, w64_of, w8_of]) <;> first | assumption | omega | (split <;> omega) | (refine And.intro ?_ ?_ <;> split <;> omega)) | omega) (by (try dsimp only) <;> first | assumption | omega | ((try simp (disch := omega) only [w32_of, w64_of, w8_of]) <;> first | assumption | omega | (split <;> omega) | (refine And.intro ?_ ?_ <;> split <;> omega)) | omega) (fun x_25 e_x_25 => ?_)
          have b_x_25 : 0 ≤ x_25 ∧ x_25 ≤ 8191 := by rw [e_x_25]; exact ii_kG_corner hσ _
          try simp (disch := omega) only [w32_of, w64_of, w8_of] at e_x_25
          have c16 := ii_kG_corner hσ x_23
          exact wp_some (by (try dsimp only) <;> first | assumption | omega | ((try simp (disch := omega) only [w32_of, w64_of, w8_of]) <;> first | assumption | omega | (split <;> omega) | (refine And.intro ?_ ?_ <;> split <;> omega)) | omega)
      rintro x_28 _ g17
      have c18 := w32_rng x_15
      refine wp_rdI (by (try dsimp only) <;> first | assumption | omega | ((try simp (disch := omega) only [w32_of, w64_of, w8_of]) <;> first | assumption | omega | (split <;> omega) | (refine And.intro ?_ ?_ <;> split <;> omega)) | omega) (by (try dsimp only) <;> first | assumption | omega | ((try simp (disch := omega) only [w32_of, w64_of, w8_of]) <;> first | assumption | omega | (split <;> omega) | (refine And.intro ?_ ?_ <;> split <;> omega)) | omega) (fun x_29 e_x_29 => ?_)
      have b_x_29 : (-1000000000) ≤ x_29 ∧ x_29 ≤ 1000000000 := by rw [e_x_29]; exact ii_kN_hotX hσ _
      try simp (disch := omega) only [w32_of, w64_of, w8_of] at e_x_29
      have c19 := ii_kN_hotX hσ x_15
      refine wp_rdI (by (try dsimp only) <;> first | assumption | omega | ((try simp (disch := omega) only [w32_of, w64_of, w8_of]) <;> first | assumption | omega | (split <;> omega) | (refine And.intro ?_ ?_ <;> split <;> omega)) | omega) (by (try dsimp only) <;> first | assumption | omega | ((try simp (disch := omega) only [w32_of, w64_of, w8_of]) <;> first | assumption | omega | (split <;> omega) | (refine And.intro ?_ ?_ <;> split <;> omega)) | omega) (fun x_31 e_x_31 => ?_)
      have b_x_31 : (-1000000000) ≤ x_31 ∧ x_31 ≤ 1000000000 := by rw [e_x_31]; exact ii_kN_hotY hσ _
      try simp (disch := omega) only [w32_of, w64_of, w8_of] at e_x_31
      have c20 := ii_kN_hotY hσ x_15
      have c21 := w32_rng x_28
      refine wp_rdI (by (try dsimp only) <;> first | assumption | omega | ((try simp (disch := omega) only [w32_of, w64_of, w8_of]) <;> first | assumption | omega | (split <;> omega) | (refine And.intro ?_ ?_ <;> split <;> omega)) | omega) (by (try dsimp only) <;> first | assumption | omega | ((try simp (disch := omega) only [w32_of, w64_of, w8_of]) <;> first | assumption | omega | (split <;> omega) | (refine And.intro ?_ ?_ <;> split <;> omega)) | omega) (fun x_33 e_x_33 => ?_)
      have b_x_33 : (-1000000000) ≤ x_33 ∧ x_33 ≤ 1000000000 := by rw [e_x_33]; exact ii_kN_hotX hσ _
      try simp (disch := omega) only [w32_of, w64_of, w8_of] at e_x_33
      have c22 := ii_kN_hotX hσ x_28
      refine wp_rdI (by (try dsimp only) <;> first | assumption | omega | ((try simp (disch := omega) only [w32_of, w64_of, w8_of]) <;> first | assumption | omega | (split <;> omega) | (refine And.intro ?_ ?_ <;> split <;> omega)) | omega) (by (try dsimp only) <;> first | assumption | omega | ((try simp (disch := omega) only [w32_of, w64_of, w8_of]) <;> first | assumption | omega | (split <;> omega) | (refine And.intro ?_ ?_ <;> split <;> omega)) | omega) (fun x_35 e_x_35 => ?_)
      have b_x_35 : (-1000000000) ≤ x_35 ∧ x_35 ≤ 1000000000 := by rw [e_x_35]; exact ii_kN_hotY hσ _
      try simp (disch := omega) only [w32_of, w64_of, w8_of] at e_x_35
      have c23 := ii_kN_hotY hσ x_28
      refine wp_if (fun c24 => ?_) (fun c24 => ?_)
      · try simp (disch := omega) only [w32_of, w64_of, w8_of, decide_eq_true_eq, decide_eq_false_iff_not, Bool.not_eq_true, fQ_isOnSegment] at c24
        exact wp_some (x_inr (x_inr (by (try dsimp only) <;> first | assumption | omega | ((try simp (disch := omega) only [w32_of, w64_of, w8_of]) <;> first | assumption | omega | (split <;> omega) | (refine And.intro ?_ ?_ <;> split <;> omega)) | omega)))
      · try simp (disch := omega) only [w32_of, w64_of, w8_of, decide_eq_true_eq, decide_eq_false_iff_not, Bool.not_eq_true, fQ_isOnSegment] at c24
        refine wp_bd (P := fun rr_ => True) ?_ ?_
        · refine wp_if (fun c25 => ?_) (fun c25 => ?_)
          · try simp (disch := omega) only [w32_of, w64_of, w8_of, decide_eq_true_eq, decide_eq_false_iff_not, Bool.not_eq_true, fQ_isCrossedFrom] at c25
            exact wp_some trivial
          · try simp (disch := omega) only [w32_of, w64_of, w8_of, decide_eq_true_eq, decide_eq_false_iff_not, Bool.not_eq_true, fQ_isCrossedFrom] at c25
            exact wp_some trivial
        rintro odd_47 _ -
        exact wp_some (x_inl ⟨(by (try dsimp only) <;> first | assumption | omega | ((try simp (disch := omega) only [w32_of, w64_of, w8_of]) <;> first | assumption | omega | (split <;> omega) | (refine And.intro ?_ ?_ <;> split <;> omega)) | omega), (by (try dsimp only) <;> first | assumption | omega | ((try simp (disch := omega) only [w32_of, w64_of, w8_of]) <;> first | assumption | omega | (split <;> omega) | (refine And.intro ?_ ?_ <;> split <;> omega)) | omega)⟩)
    · try simp (disch := omega) only [w32_of, w64_of, w8_of, decide_eq_true_eq, decide_eq_false_iff_not, Bool.not_eq_true] at c7
      exact wp_some (x_inr (x_inl (by (try dsimp only) <;> first | assumption | omega | ((try simp (disch := omega) only [w32_of, w64_of, w8_of]) <;> first | assumption | omega | (split <;> omega) | (refine And.intro ?_ ?_ <;> split <;> omega)) | omega)))
  rintro ⟨odd_55, k_56⟩ y27
  try dsimp only at y27 ⊢
  have g26 := y27
  exact wp_some (by (try dsimp only) <;> first | assumption | omega | ((try simp (disch := omega) only [w32_of, w64_of, w8_of]) <;> first | assumption | omega | (split <;> omega) | (refine And.intro ?_ ?_ <;> split <;> omega)) | omega)
theorem s_G_liesIn {σ : SG} {hole_0 : Int} {shell_0 : Int} (hσ : II σ) (w0 : 0 ≤ hole_0 ∧ hole_0 ≤ 511) (w1 : 0 ≤ shell_0 ∧ shell_0 ≤ 511) : wp_ (fG_liesIn σ hole_0 shell_0) (fun zz_ => True) := by
  unfold fG_liesIn
  have c1 := w32_rng hole_0
  refine wp_rdI (by (try dsimp only) <;> first | assumption | omega | ((try simp (disch := omega) only [w32_of, w64_of, w8_of]) <;> first | assumption | omega | (split <;> omega) | (refine And.intro ?_ ?_ <;> split <;> omega)) | omega) (by (try dsimp only) <;> first | assumption | omega | ((try simp (disch := omega) only [w32_of, w64_of, w8_of]) <;> first | assumption | omega | (split <;> omega) | (refine And.intro ?_ ?_ <;> split <;> omega)) | omega) (fun x_1 e_x_1 => ?_)
  have b_x_1 : 0 ≤ x_1 ∧ x_1 ≤ 2048 := by rw [e_x_1]; exact ii_kG_ringBegin hσ _
  try simp (disch := omega) only [w32_of, w64_of, w8_of] at e_x_1
  have c2 := ii_kG_ringBegin hσ hole_0
  refine wp_bx (P := fun rr_ => (0 ≤ rr_ ∧ rr_ ≤ 2048)) ?_ ?_
  · refine wp_whl (fun ss_ => (0 ≤ ss_ ∧ ss_ ≤ 2048)) (fun ss_ => (2049 - ss_).toNat) (by (try dsimp only) <;> first | assumption | omega | ((try simp (disch := omega) only [w32_of, w64_of, w8_of]) <;> first | assumption | omega | (split <;> omega) | (refine And.intro ?_ ?_ <;> split <;> omega)) | omega) ?_
    rintro k_3 g3
    have c4 := w32_rng (hole_0 + 1)
    refine wp_rdI (by (try dsimp only) <;> first | assumption | omega | ((try simp (disch := omega) only [w32_of, w64_of, w8_of]) <;> first | assumption | omega | (split <;> omega) | (refine And.intro ?_ ?_ <;> split <;> omega)) | omega) (by (try dsimp only) <;> first | assumption | omega | ((try simp (disch := omega) only [w32_of, w64_of, w8_of]) <;> first | assumption | omega | (split <;> omega) | (refine And.intro ?_ ?_ <;> split <;> omega)) | omega) (fun x_11 e_x_11 => ?_)
    have b_x_11 : 0 ≤ x_11 ∧ x_11 ≤ 2048 := by rw [e_x_11]; exact ii_kG_ringBegin hσ _
    try simp (disch := omega) only [w32_of, w64_of, w8_of] at e_x_11
    have c5 := ii_kG_ringBegin hσ (hole_0 + 1)
    have c7 := w32_rng k_3
    have c8 := w32_rng x_11
    refine wp_if (fun c6 => ?_) (fun c6 => ?_)
    · try simp (disch := omega) only [w32_of, w64_of, w8_of, decide_eq_true_eq, decide_eq_false_iff_not, Bool.not_eq_true] at c6
      refine wp_rdI (by (try dsimp only) <;> first | assumption | omega | ((try simp (disch := omega) only [w32_of, w64_of, w8_of]) <;> first | assumption | omega | (split <;> omega) | (refine And.intro ?_ ?_ <;> split <;> omega)) | omega) (by (try dsimp only) <;> first | assumption | omega | ((try simp (disch := omega) only [w32_of, w64_of, w8_of]) <;> first | assumption | omega | (split <;> omega) | (refine And.intro ?_ ?_ <;> split <;> omega)) | omega) (fun x_14 e_x_14 => ?_)
      have b_x_14 : 0 ≤ x_14 ∧ x_14 ≤ 8191 := by rw [e_x_14]; exact ii_kG_corner hσ _
      try simp (disch := omega) only [w32_of, w64_of, w8_of] at e_x_14
      have c9 := ii_kG_corner hσ k_3
      have c10 := w32_rng x_14
      refine wp_rdI (by (try dsimp only) <;> first | assumption | omega | ((try simp (disch := omega) only [w32_of, w64_of, w8_of]) <;> first | assumption | omega | (split <;> omega) | (refine And.intro ?_ ?_ <;> split <;> omega)) | omega) (by (try dsimp only) <;> first | assumption | omega | ((try simp (disch := omega) only [w32_of, w64_of, w8_of]) <;> first | assumption | omega | (split <;> omega) | (refine And.intro ?_ ?_ <;> split <;> omega)) | omega) (fun x_16 e_x_16 => ?_)
      have b_x_16 : (-1000000000) ≤ x_16 ∧ x_16 ≤ 1000000000 := by rw [e_x_16]; exact ii_kN_hotX hσ _
      try simp (disch := omega) only [w32_of, w64_of, w8_of] at e_x_16
      have c11 := ii_kN_hotX hσ x_14
      refine wp_rdI (by (try dsimp only) <;> first | assumption | omega | ((try simp (disch := omega) only [w32_of, w64_of, w8_of]) <;> first | assumption | omega | (split <;> omega) | (refine And.intro ?_ ?_ <;> split <;> omega)) | omega) (by (try dsimp only) <;> first | assumption | omega | ((try simp (disch := omega) only [w32_of, w64_of, w8_of]) <;> first | assumption | omega | (split <;> omega) | (refine And.intro ?_ ?_ <;> split <;> omega)) | omega) (fun x_18 e_x_18 => ?_)
      have b_x_18 : 0 ≤ x_18 ∧ x_18 ≤ 8191 := by rw [e_x_18]; exact ii_kG_corner hσ _
      try simp (disch := omega) only [w32_of, w64_of, w8_of] at e_x_18
      have c12 := w32_rng x_18
      refine wp_rdI (by (try dsimp only) <;> first | assumption | omega | ((try simp (disch := omega) only [w32_of, w64_of, w8_of]) <;> first | assumption | omega | (split <;> omega) | (refine And.intro ?_ ?_ <;> split <;> omega)) | omega) (by (try dsimp only) <;> first | assumption | omega | ((try simp (disch := omega) only [w32_of, w64_of, w8_of]) <;> first | assumption | omega | (split <;> omega) | (refine And.intro ?_ ?_ <;> split <;> omega)) | omega) (fun x_20 e_x_20 => ?_)
      have b_x_20 : (-1000000000) ≤ x_20 ∧ x_20 ≤ 1000000000 := by rw [e_x_20]; exact ii_kN_hotY hσ _
      try simp (disch := omega) only [w32_of, w64_of, w8_of] at e_x_20
      have c13 := ii_kN_hotY hσ x_18
      refine wp_bd (s_G_whereIs (σ := σ) (ring_0 := shell_0) (x_0 := x_16) (y_0 := x_20) hσ (by (try dsimp only) <;> first | assumption | omega | ((try simp (disch := omega) only [w32_of, w64_of, w8_of]) <;> first | assumption | omega | (split <;> omega) | (refine And.intro ?_ ?_ <;> split <;> omega)) | omega)) ?_
      rintro x_23 - g14
      try simp (disch := omega) only [w32_of, w64_of, w8_of] at g14
      have c16 := w32_rng x_23
      refine wp_if (fun c15 => ?_) (fun c15 => ?_)
      · try simp (disch := omega) only [w32_of, w64_of, w8_of, decide_eq_true_eq, decide_eq_false_iff_not, Bool.not_eq_true] at c15
        exact wp_some (x_inr (x_inr trivial))
      · try simp (disch := omega) only [w32_of, w64_of, w8_of, decide_eq_true_eq, decide_eq_false_iff_not, Bool.not_eq_true] at c15
        exact wp_some (x_inl ⟨(by (try dsimp only) <;> first | assumption | omega | ((try simp (disch := omega) only [w32_of, w64_of, w8_of]) <;> first | assumption | omega | (split <;> omega) | (refine And.intro ?_ ?_ <;> split <;> omega)) | omega), (by (try dsimp only) <;> first | assumption | omega | ((try simp (disch := omega) only [w32_of, w64_of, w8_of]) <;> first | assumption | omega | (split <;> omega) | (refine And.intro ?_ ?_ <;> split <;> omega)) | omega)⟩)
    · try simp (disch := omega) only [w32_of, w64_of, w8_of, decide_eq_true_eq, decide_eq_false_iff_not, Bool.not_eq_true] at c6
      exact wp_some (x_inr (x_inl (by (try dsimp only) <;> first | assumption | omega | ((try simp (disch := omega) only [w32_of, w64_of, w8_of]) <;> first | assumption | omega | (split <;> omega) | (refine And.intro ?_ ?_ <;> split <;> omega)) | omega)))
  rintro k_29 g17
  exact wp_some trivial
theorem s_G_giveHolesToShells {σ : SG} (hσ : II σ) : wp_ (fG_giveHolesToShells σ) (fun zz_ => II zz_ ∧ FC [kG_shellOf] [] σ zz_) := by
  unfold fG_giveHolesToShells
  refine wp_bd (P := fun rr_ => (0 ≤ rr_.1 ∧ rr_.1 ≤ 512) ∧ II rr_.2 ∧ FC [kG_shellOf] [] σ rr_.2) ?_ ?_
  · refine wp_whl (fun ss_ => (0 ≤ ss_.1 ∧ ss_.1 ≤ 512) ∧ II ss_.2 ∧ FC [kG_shellOf] [] σ ss_.2) (fun ss_ => (513 - ss_.1).toNat) ⟨(by (try dsimp only) <;> first | assumption | omega | ((try simp (disch := omega) only [w32_of, w64_of, w8_of]) <;> first | assumption | omega | (split <;> omega) | (refine And.intro ?_ ?_ <;> split <;> omega)) | omega), hσ, (FC_refl _ _ _)⟩ ?_
    rintro ⟨hole_1, σ_2⟩ y2
    try dsimp only at y2 ⊢
    obtain ⟨g1, hσ_2, frσ_2⟩ := y2
    have c4 := w32_rng hole_1
    have c5 := ii_kG_rings hσ_2 0
    have c6 := FC_at frσ_2 (c := kG_rings) (by first | decide | (rcases hE with rfl | rfl | rfl <;> decide)) 0
    have c7 := ii_kG_rings hσ 0
    have c8 := w32_rng (σ_2 kG_rings 0)
    refine wp_if (fun c3 => ?_) (fun c3 => ?_)
    · try simp (disch := omega) only [w32_of, w64_of, w8_of, decide_eq_true_eq, decide_eq_false_iff_not, Bool.not_eq_true] at c3
      refine wp_waI hσ_2 b_kG_shellOf (by (try dsimp only) <;> first | assumption | omega | ((try simp (disch := omega) only [w32_of, w64_of, w8_of]) <;> first | assumption | omega | (split <;> omega) | (refine And.intro ?_ ?_ <;> split <;> omega)) | omega) (by (try dsimp only) <;> first | assumption | omega | ((try simp (disch := omega) only [w32_of, w64_of, w8_of]) <;> first | assumption | omega | (split <;> omega) | (refine And.intro ?_ ?_ <;> split <;> omega)) | omega) (by (try dsimp only) <;> first | assumption | omega | ((try simp (disch := omega) only [w32_of, w64_of, w8_of]) <;> first | assumption | omega | (split <;> omega) | (refine And.intro ?_ ?_ <;> split <;> omega)) | omega) (fun σ_11 hσ_11 eσ_11 => ?_)
      try simp (disch := omega) only [w32_of, w64_of, w8_of] at eσ_11
      have flσ_11 := FC_sg eσ_11 (by first | decide | (rcases hE with rfl | rfl | rfl <;> decide))
      have frσ_11 : FC [kG_shellOf] [] σ σ_11 := FC_tr frσ_2 flσ_11 (by first | decide | (rcases hE with rfl | rfl | rfl <;> decide)) (by first | decide | (rcases hE with rfl | rfl | rfl <;> decide)) (by simp) (by simp)
      refine wp_bd (P := fun rr_ => (0 ≤ rr_.1 ∧ rr_.1 ≤ 512) ∧ II rr_.2 ∧ FC [kG_shellOf] [] σ rr_.2) ?_ ?_
      · refine wp_whl (fun ss_ => (0 ≤ ss_.1 ∧ ss_.1 ≤ 512) ∧ II ss_.2 ∧ FC [kG_shellOf] [] σ ss_.2) (fun ss_ => (513 - ss_.1).toNat) ⟨(by (try dsimp only) <;> first | assumption | omega | ((try simp (disch := omega) only [w32_of, w64_of, w8_of]) <;> first | assumption | omega | (split <;> omega) | (refine And.intro ?_ ?_ <;> split <;> omega)) | omega), hσ_11, frσ_11⟩ ?_
        rintro ⟨shell_13, σ_14⟩ y10
        try dsimp only at y10 ⊢
        obtain ⟨g9, hσ_14, frσ_14⟩ := y10
        have c12 := w32_rng shell_13
        have c13 := ii_kG_rings hσ_14 0
        have c14 := FC_at frσ_14 (c := kG_rings) (by first | decide | (rcases hE with rfl | rfl | rfl <;> decide)) 0
        have c15 := w32_rng (σ_14 kG_rings 0)
        refine wp_if (fun c11 => ?_) (fun c11 => ?_)
        · try simp (disch := omega) only [w32_of, w64_of, w8_of, decide_eq_true_eq, decide_eq_false_iff_not, Bool.not_eq_true] at c11
          refine wp_bd (s_G_isShell (σ := σ_14) (ring_0 := hole_1) hσ_14 (by (try dsimp only) <;> first | assumption | omega | ((try simp (disch := omega) only [w32_of, w64_of, w8_of]) <;> first | assumption | omega | (split <;> omega) | (refine And.intro ?_ ?_ <;> split <;> omega)) | omega)) ?_
          rintro x_32 - -
          refine wp_if (fun c17 => ?_) (fun c17 => ?_)
          · try simp (disch := omega) only [w32_of, w64_of, w8_of, decide_eq_true_eq, decide_eq_false_iff_not, Bool.not_eq_true] at c17
            exact wp_some (x_inr ⟨(by (try dsimp only) <;> first | assumption | omega | ((try simp (disch := omega) only [w32_of, w64_of, w8_of]) <;> first | assumption | omega | (split <;> omega) | (refine And.intro ?_ ?_ <;> split <;> omega)) | omega), hσ_14, frσ_14⟩)
          · try simp (disch := omega) only [w32_of, w64_of, w8_of, decide_eq_true_eq, decide_eq_false_iff_not, Bool.not_eq_true] at c17
            refine wp_bd (P := fun rr_ => True) ?_ ?_
            · refine wp_rdI (by (try dsimp only) <;> first | assumption | omega | ((try simp (disch := omega) only [w32_of, w64_of, w8_of]) <;> first | assumption | omega | (split <;> omega) | (refine And.intro ?_ ?_ <;> split <;> omega)) | omega) (by (try dsimp only) <;> first | assumption | omega | ((try simp (disch := omega) only [w32_of, w64_of, w8_of]) <;> first | assumption | omega | (split <;> omega) | (refine And.intro ?_ ?_ <;> split <;> omega)) | omega) (fun x_35 e_x_35 => ?_)
              have b_x_35 : (-1) ≤ x_35 ∧ x_35 ≤ 511 := by rw [e_x_35]; exact ii_kG_shellOf hσ_14 _
              try simp (disch := omega) only [w32_of, w64_of, w8_of] at e_x_35
              have c18 := ii_kG_shellOf hσ_14 hole_1
              have c20 := w32_rng x_35
              refine wp_if (fun c19 => ?_) (fun c19 => ?_)
              · try simp (disch := omega) only [w32_of, w64_of, w8_of, decide_eq_true_eq, decide_eq_false_iff_not, Bool.not_eq_true] at c19
                exact wp_some trivial
              · try simp (disch := omega) only [w32_of, w64_of, w8_of, decide_eq_true_eq, decide_eq_false_iff_not, Bool.not_eq_true] at c19
                refine wp_rdI (by (try dsimp only) <;> first | assumption | omega | ((try simp (disch := omega) only [w32_of, w64_of, w8_of]) <;> first | assumption | omega | (split <;> omega) | (refine And.intro ?_ ?_ <;> split <;> omega)) | omega) (by (try dsimp only) <;> first | assumption | omega | ((try simp (disch := omega) only [w32_of, w64_of, w8_of]) <;> first | assumption | omega | (split <;> omega) | (refine And.intro ?_ ?_ <;> split <;> omega)) | omega) (fun x_39 e_x_39 => ?_)
                rw [FC_at frσ_14 (c := kG_ringArea) (by first | decide | (rcases hE with rfl | rfl | rfl <;> decide))] at e_x_39
                try simp (disch := omega) only [w32_of, w64_of, w8_of] at e_x_39
                have c21 := FC_at frσ_14 (c := kG_ringArea) (by first | decide | (rcases hE with rfl | rfl | rfl <;> decide)) shell_13
                refine wp_rdI (by (try dsimp only) <;> first | assumption | omega | ((try simp (disch := omega) only [w32_of, w64_of, w8_of]) <;> first | assumption | omega | (split <;> omega) | (refine And.intro ?_ ?_ <;> split <;> omega)) | omega) (by (try dsimp only) <;> first | assumption | omega | ((try simp (disch := omega) only [w32_of, w64_of, w8_of]) <;> first | assumption | omega | (split <;> omega) | (refine And.intro ?_ ?_ <;> split <;> omega)) | omega) (fun x_41 e_x_41 => ?_)
                have b_x_41 : (-1) ≤ x_41 ∧ x_41 ≤ 511 := by rw [e_x_41]; exact ii_kG_shellOf hσ_14 _
                try simp (disch := omega) only [w32_of, w64_of, w8_of] at e_x_41
                have c22 := w32_rng x_41
                refine wp_rdI (by (try dsimp only) <;> first | assumption | omega | ((try simp (disch := omega) only [w32_of, w64_of, w8_of]) <;> first | assumption | omega | (split <;> omega) | (refine And.intro ?_ ?_ <;> split <;> omega)) | omega) (by (try dsimp only) <;> first | assumption | omega | ((try simp (disch := omega) only [w32_of, w64_of, w8_of]) <;> first | assumption | omega | (split <;> omega) | (refine And.intro ?_ ?_ <;> split <;> omega)) | omega) (fun x_43 e_x_43 => ?_)
                rw [FC_at frσ_14 (c := kG_ringArea) (by first | decide | (rcases hE with rfl | rfl | rfl <;> decide))] at e_x_43
                try simp (disch := omega) only [w32_of, w64_of, w8_of] at e_x_43
                have c23 := FC_at frσ_14 (c := kG_ringArea) (by first | decide | (rcases hE with rfl | rfl | rfl <;> decide)) x_41
                have c25 := w64_rng x_39
                have c26 := w64_rng x_43
                refine wp_if (fun c24 => ?_) (fun c24 => ?_)
                · try simp (disch := omega) only [w32_of, w64_of, w8_of, decide_eq_true_eq, decide_eq_false_iff_not, Bool.not_eq_true] at c24
                  exact wp_some trivial
                · try simp (disch := omega) only [w32_of, w64_of, w8_of, decide_eq_true_eq, decide_eq_false_iff_not, Bool.not_eq_true] at c24
                  exact wp_some trivial
            rintro x_48 _ -
            refine wp_bd (P := fun rr_ => II rr_ ∧ FC [kG_shellOf] [] σ rr_) ?_ ?_
            · refine wp_bd (s_G_isShell (σ := σ_14) (ring_0 := shell_13) hσ_14 (by (try dsimp only) <;> first | assumption | omega | ((try simp (disch := omega) only [w32_of, w64_of, w8_of]) <;> first | assumption | omega | (split <;> omega) | (refine And.intro ?_ ?_ <;> split <;> omega)) | omega)) ?_
              rintro x_72 - -
              refine wp_if (fun c28 => ?_) (fun c28 => ?_)
              · try simp (disch := omega) only [w32_of, w64_of, w8_of, decide_eq_true_eq, decide_eq_false_iff_not, Bool.not_eq_true] at c28
                refine wp_if (fun c29 => ?_) (fun c29 => ?_)
                · try simp (disch := omega) only [w32_of, w64_of, w8_of, decide_eq_true_eq, decide_eq_false_iff_not, Bool.not_eq_true] at c29
                  refine wp_rdI (by (try dsimp only) <;> first | assumption | omega | ((try simp (disch := omega) only [w32_of, w64_of, w8_of]) <;> first | assumption | omega | (split <;> omega) | (refine And.intro ?_ ?_ <;> split <;> omega)) | omega) (by (try dsimp only) <;> first | assumption | omega | ((try simp (disch := omega) only [w32_of, w64_of, w8_of]) <;> first | assumption | omega | (split <;> omega) | (refine And.intro ?_ ?_ <;> split <;> omega)) | omega) (fun x_75 e_x_75 => ?_)
                  rw [FC_at frσ_14 (c := kG_ringArea) (by first | decide | (rcases hE with rfl | rfl | rfl <;> decide))] at e_x_75
                  try simp (disch := omega) only [w32_of, w64_of, w8_of] at e_x_75
                  have c30 := FC_at frσ_14 (c := kG_ringArea) (by first | decide | (rcases hE with rfl | rfl | rfl <;> decide)) shell_13
                  refine wp_rdI (by (try dsimp only) <;> first | assumption | omega | ((try simp (disch := omega) only [w32_of, w64_of, w8_of]) <;> first | assumption | omega | (split <;> omega) | (refine And.intro ?_ ?_ <;> split <;> omega)) | omega) (by (try dsimp only) <;> first | assumption | omega | ((try simp (disch := omega) only [w32_of, w64_of, w8_of]) <;> first | assumption | omega | (split <;> omega) | (refine And.intro ?_ ?_ <;> split <;> omega)) | omega) (fun x_77 e_x_77 => ?_)
                  rw [FC_at frσ_14 (c := kG_ringArea) (by first | decide | (rcases hE with rfl | rfl | rfl <;> decide))] at e_x_77
                  try simp (disch := omega) only [w32_of, w64_of, w8_of] at e_x_77
                  have c31 := FC_at frσ_14 (c := kG_ringArea) (by first | decide | (rcases hE with rfl | rfl | rfl <;> decide)) hole_1
                  have c33 := w64_rng (-x_77)
                  have c34 := w64_rng x_75
                  refine wp_if (fun c32 => ?_) (fun c32 => ?_)
                  · try simp (disch := omega) only [w32_of, w64_of, w8_of, decide_eq_true_eq, decide_eq_false_iff_not, Bool.not_eq_true] at c32
                    refine wp_bd (s_G_liesIn (σ := σ_14) (hole_0 := hole_1) (shell_0 := shell_13) hσ_14 (by (try dsimp only) <;> first | assumption | omega | ((try simp (disch := omega) only [w32_of, w64_of, w8_of]) <;> first | assumption | omega | (split <;> omega) | (refine And.intro ?_ ?_ <;> split <;> omega)) | omega) (by (try dsimp only) <;> first | assumption | omega | ((try simp (disch := omega) only [w32_of, w64_of, w8_of]) <;> first | assumption | omega | (split <;> omega) | (refine And.intro ?_ ?_ <;> split <;> omega)) | omega)) ?_
                    rintro x_81 - -
                    refine wp_if (fun c36 => ?_) (fun c36 => ?_)
                    · try simp (disch := omega) only [w32_of, w64_of, w8_of, decide_eq_true_eq, decide_eq_false_iff_not, Bool.not_eq_true] at c36
                      refine wp_waI hσ_14 b_kG_shellOf (by (try dsimp only) <;> first | assumption | omega | ((try simp (disch := omega) only [w32_of, w64_of, w8_of]) <;> first | assumption | omega | (split <;> omega) | (refine And.intro ?_ ?_ <;> split <;> omega)) | omega) (by (try dsimp only) <;> first | assumption | omega | ((try simp (disch := omega) only [w32_of, w64_of, w8_of]) <;> first | assumption | omega | (split <;> omega) | (refine And.intro ?_ ?_ <;> split <;> omega)) | omega) (by (try dsimp only) <;> first | assumption | omega | ((try simp (disch := omega) only [w32_of, w64_of, w8_of]) <;> first | assumption | omega | (split <;> omega) | (refine And.intro ?_ ?_ <;> split <;> omega)) | omega) (fun σ_83 hσ_83 eσ_83 => ?_)
                      try simp (disch := omega) only [w32_of, w64_of, w8_of] at eσ_83
                      have flσ_83 := FC_sg eσ_83 (by first | decide | (rcases hE with rfl | rfl | rfl <;> decide))
                      have frσ_83 : FC [kG_shellOf] [] σ σ_83 := FC_tr frσ_14 flσ_83 (by first | decide | (rcases hE with rfl | rfl | rfl <;> decide)) (by first | decide | (rcases hE with rfl | rfl | rfl <;> decide)) (by simp) (by simp)
                      exact wp_some ⟨hσ_83, frσ_83⟩
                    · try simp (disch := omega) only [w32_of, w64_of, w8_of, decide_eq_true_eq, decide_eq_false_iff_not, Bool.not_eq_true] at c36
                      exact wp_some ⟨hσ_14, frσ_14⟩
                  · try simp (disch := omega) only [w32_of, w64_of, w8_of, decide_eq_true_eq, decide_eq_false_iff_not, Bool.not_eq_true] at c32
                    exact wp_some ⟨hσ_14, frσ_14⟩
                · try simp (disch := omega) only [w32_of, w64_of, w8_of, decide_eq_true_eq, decide_eq_false_iff_not, Bool.not_eq_true] at c29
                  exact wp_some ⟨hσ_14, frσ_14⟩
              · try simp (disch := omega) only [w32_of, w64_of, w8_of, decide_eq_true_eq, decide_eq_false_iff_not, Bool.not_eq_true] at c28
                exact wp_some ⟨hσ_14, frσ_14⟩
            rintro σ_90 _ ⟨hσ_90, frσ_90⟩
            exact wp_some (x_inl ⟨⟨(by (try dsimp only) <;> first | assumption | omega | ((try simp (disch := omega) only [w32_of, w64_of, w8_of]) <;> first | assumption | omega | (split <;> omega) | (refine And.intro ?_ ?_ <;> split <;> omega)) | omega), hσ_90, frσ_90⟩, (by (try dsimp only) <;> first | assumption | omega | ((try simp (disch := omega) only [w32_of, w64_of, w8_of]) <;> first | assumption | omega | (split <;> omega) | (refine And.intro ?_ ?_ <;> split <;> omega)) | omega)⟩)
        · try simp (disch := omega) only [w32_of, w64_of, w8_of, decide_eq_true_eq, decide_eq_false_iff_not, Bool.not_eq_true] at c11
          exact wp_some (x_inr ⟨(by (try dsimp only) <;> first | assumption | omega | ((try simp (disch := omega) only [w32_of, w64_of, w8_of]) <;> first | assumption | omega | (split <;> omega) | (refine And.intro ?_ ?_ <;> split <;> omega)) | omega), hσ_14, frσ_14⟩)
      rintro ⟨shell_98, σ_99⟩ _ y38
      try dsimp only at y38 ⊢
      obtain ⟨g37, hσ_99, frσ_99⟩ := y38
      exact wp_some (x_inl ⟨⟨(by (try dsimp only) <;> first | assumption | omega | ((try simp (disch := omega) only [w32_of, w64_of, w8_of]) <;> first | assumption | omega | (split <;> omega) | (refine And.intro ?_ ?_ <;> split <;> omega)) | omega), hσ_99, frσ_99⟩, (by (try dsimp only) <;> first | assumption | omega | ((try simp (disch := omega) only [w32_of, w64_of, w8_of]) <;> first | assumption | omega | (split <;> omega) | (refine And.intro ?_ ?_ <;> split <;> omega)) | omega)⟩)
    · try simp (disch := omega) only [w32_of, w64_of, w8_of, decide_eq_true_eq, decide_eq_false_iff_not, Bool.not_eq_true] at c3
      exact wp_some (x_inr ⟨(by (try dsimp only) <;> first | assumption | omega | ((try simp (disch := omega) only [w32_of, w64_of, w8_of]) <;> first | assumption | omega | (split <;> omega) | (refine And.intro ?_ ?_ <;> split <;> omega)) | omega), hσ_2, frσ_2⟩)
  rintro ⟨hole_103, σ_104⟩ _ y40
  try dsimp only at y40 ⊢
  obtain ⟨g39, hσ_104, frσ_104⟩ := y40
  exact wp_some ⟨hσ_104, frσ_104⟩
theorem s_G_addIncident {σ : SG} {h_0 : Int} {piece_0 : Int} (hσ : II σ) (w0 : 0 ≤ h_0 ∧ h_0 ≤ 8191) (w1 : 0 ≤ piece_0 ∧ piece_0 ≤ 16383) (w2 : σ kG_begin (h_0 + 1) ≤ 32767) : wp_ (fG_addIncident σ h_0 piece_0) (fun zz_ => II zz_ ∧ FC [kG_begin, kG_incident] [] σ zz_ ∧ (zz_ kG_begin (h_0 + 1) = σ kG_begin (h_0 + 1) + 1) ∧ (∀ i, i ≠ h_0 + 1 → zz_ kG_begin i = σ kG_begin i)) := by
  unfold fG_addIncident
  have c1 := ii_kG_begin hσ (h_0 + 1)
  have c2 := w32_rng (h_0 + 1)
  refine wp_rdI (by (try dsimp only) <;> first | assumption | omega | ((try simp (disch := omega) only [w32_of, w64_of, w8_of]) <;> first | assumption | omega | (split <;> omega) | (refine And.intro ?_ ?_ <;> split <;> omega)) | omega) (by (try dsimp only) <;> first | assumption | omega | ((try simp (disch := omega) only [w32_of, w64_of, w8_of]) <;> first | assumption | omega | (split <;> omega) | (refine And.intro ?_ ?_ <;> split <;> omega)) | omega) (fun x_1 e_x_1 => ?_)
  have b_x_1 : 0 ≤ x_1 ∧ x_1 ≤ 32768 := by rw [e_x_1]; exact ii_kG_begin hσ _
  try simp (disch := omega) only [w32_of, w64_of, w8_of] at e_x_1
  have c3 := w32_rng x_1
  refine wp_waI hσ b_kG_incident (by (try dsimp only) <;> first | assumption | omega | ((try simp (disch := omega) only [w32_of, w64_of, w8_of]) <;> first | assumption | omega | (split <;> omega) | (refine And.intro ?_ ?_ <;> split <;> omega)) | omega) (by (try dsimp only) <;> first | assumption | omega | ((try simp (disch := omega) only [w32_of, w64_of, w8_of]) <;> first | assumption | omega | (split <;> omega) | (refine And.intro ?_ ?_ <;> split <;> omega)) | omega) (by (try dsimp only) <;> first | assumption | omega | ((try simp (disch := omega) only [w32_of, w64_of, w8_of]) <;> first | assumption | omega | (split <;> omega) | (refine And.intro ?_ ?_ <;> split <;> omega)) | omega) (fun σ_3 hσ_3 eσ_3 => ?_)
  try simp (disch := omega) only [w32_of, w64_of, w8_of] at eσ_3
  have flσ_3 := FC_sg eσ_3 (by first | decide | (rcases hE with rfl | rfl | rfl <;> decide))
  have frσ_3 : FC [kG_begin, kG_incident] [] σ σ_3 := FC_le flσ_3 (by first | decide | (rcases hE with rfl | rfl | rfl <;> decide)) (by simp)
  refine wp_rdI (by (try dsimp only) <;> first | assumption | omega | ((try simp (disch := omega) only [w32_of, w64_of, w8_of]) <;> first | assumption | omega | (split <;> omega) | (refine And.intro ?_ ?_ <;> split <;> omega)) | omega) (by (try dsimp only) <;> first | assumption | omega | ((try simp (disch := omega) only [w32_of, w64_of, w8_of]) <;> first | assumption | omega | (split <;> omega) | (refine And.intro ?_ ?_ <;> split <;> omega)) | omega) (fun x_5 e_x_5 => ?_)
  have b_x_5 : 0 ≤ x_5 ∧ x_5 ≤ 32768 := by rw [e_x_5]; exact ii_kG_begin hσ_3 _
  try simp (disch := omega) only [w32_of, w64_of, w8_of] at e_x_5
  have c4 := ii_kG_begin hσ_3 (h_0 + 1)
  have c5 := FC_at flσ_3 (c := kG_begin) (by first | decide | (rcases hE with rfl | rfl | rfl <;> decide)) (h_0 + 1)
  refine wp_waI hσ_3 b_kG_begin (by (try dsimp only) <;> first | assumption | omega | ((try simp (disch := omega) only [w32_of, w64_of, w8_of]) <;> first | assumption | omega | (split <;> omega) | (refine And.intro ?_ ?_ <;> split <;> omega)) | omega) (by (try dsimp only) <;> first | assumption | omega | ((try simp (disch := omega) only [w32_of, w64_of, w8_of]) <;> first | assumption | omega | (split <;> omega) | (refine And.intro ?_ ?_ <;> split <;> omega)) | omega) (by (try dsimp only) <;> first | assumption | omega | ((try simp (disch := omega) only [w32_of, w64_of, w8_of]) <;> first | assumption | omega | (split <;> omega) | (refine And.intro ?_ ?_ <;> split <;> omega)) | omega) (fun σ_7 hσ_7 eσ_7 => ?_)
  try simp (disch := omega) only [w32_of, w64_of, w8_of] at eσ_7
  have flσ_7 := FC_sg eσ_7 (by first | decide | (rcases hE with rfl | rfl | rfl <;> decide))
  have frσ_7 : FC [kG_begin, kG_incident] [] σ σ_7 := FC_tr frσ_3 flσ_7 (by first | decide | (rcases hE with rfl | rfl | rfl <;> decide)) (by first | decide | (rcases hE with rfl | rfl | rfl <;> decide)) (by simp) (by simp)
  have c6 := ii_kG_begin hσ_7 (h_0 + 1)
  have c7 := sg_val eσ_7
  exact wp_some ⟨hσ_7, frσ_7, (by (try dsimp only) <;> first | assumption | omega | ((try simp (disch := omega) only [w32_of, w64_of, w8_of]) <;> first | assumption | omega | (split <;> omega) | (refine And.intro ?_ ?_ <;> split <;> omega)) | omega), (by (try dsimp only) <;> (intro i hi; rw [eσ_7, sg_ni (by omega), eσ_3, sg_nc (by decide)]))⟩
theorem s_G_listIncident {σ : SG} (hσ : II σ) (w0 : PFs σ (σ kN_hot 0)) : wp_ (fG_listIncident σ) (fun zz_ => II zz_ ∧ FC [kG_begin, kG_incident] [] σ zz_) := by
  unfold fG_listIncident
  have c1 := ii_kN_hot hσ 0
  have hH := ii_kN_hot hσ 0
  have hP := ii_kN_pieces hσ 0
  refine wp_bd (v_fillIR (σ := σ) (a_0 := 213) (a_n := 8194) (fromIndex_0 := 0) (toIndex_0 := ((σ kN_hot 0) + 2)) (val_0 := 0) hσ (by decide) (by rw [show (213 * 256 : Nat) = kG_begin from rfl, b_kG_begin]; exact ⟨by decide, by decide⟩) (by decide) (by (try dsimp only) <;> first | assumption | omega | ((try simp (disch := omega) only [w32_of, w64_of, w8_of]) <;> first | assumption | omega | (split <;> omega) | (refine And.intro ?_ ?_ <;> split <;> omega)) | omega)) ?_
  rintro σ_2 - ⟨hσ_2, flσ_2, hz⟩
  have frσ_2 : FC [kG_begin, kG_incident] [] σ σ_2 := FC_le flσ_2 (by first | decide | (rcases hE with rfl | rfl | rfl <;> decide)) (by simp)
  try simp (disch := omega) only [w32_of, w64_of, w8_of] at hz
  refine wp_bd (P := fun rr_ => II rr_.2 ∧ FC [kG_begin, kG_incident] [] σ rr_.2 ∧ (I1_ σ rr_.2 (σ kN_pieces 0) (σ kN_hot 0))) ?_ ?_
  · have c2 := ii_kN_pieces hσ 0
    refine wp_whl (fun ss_ => II ss_.2 ∧ FC [kG_begin, kG_incident] [] σ ss_.2 ∧ (0 ≤ ss_.1 ∧ ss_.1 ≤ σ kN_pieces 0) ∧ (I1_ σ ss_.2 ss_.1 (σ kN_hot 0))) (fun ss_ => (16385 - ss_.1).toNat) ⟨hσ_2, frσ_2, (by (try dsimp only) <;> first | assumption | omega | ((try simp (disch := omega) only [w32_of, w64_of, w8_of]) <;> first | assumption | omega | (split <;> omega) | (refine And.intro ?_ ?_ <;> split <;> omega)) | omega), (by (try dsimp only) <;> (first | exact I1_z hH.1 hz rfl | exact i34))⟩ ?_
    rintro ⟨piece_3, σ_4⟩ y4
    try dsimp only at y4 ⊢
    obtain ⟨hσ_4, frσ_4, g3, i1⟩ := y4
    have c6 := w32_rng piece_3
    have c7 := ii_kN_pieces hσ_4 0
    have c8 := FC_at frσ_4 (c := kN_pieces) (by first | decide | (rcases hE with rfl | rfl | rfl <;> decide)) 0
    have c9 := w32_rng (σ_4 kN_pieces 0)
    refine wp_if (fun c5 => ?_) (fun c5 => ?_)
    · try simp (disch := omega) only [w32_of, w64_of, w8_of, decide_eq_true_eq, decide_eq_false_iff_not, Bool.not_eq_true] at c5
      refine wp_bd (P := fun rr_ => II rr_ ∧ FC [kG_begin, kG_incident] [] σ rr_ ∧ (I1_ σ rr_ (piece_3 + 1) (σ kN_hot 0))) ?_ ?_
      · refine wp_rdI (by (try dsimp only) <;> first | assumption | omega | ((try simp (disch := omega) only [w32_of, w64_of, w8_of]) <;> first | assumption | omega | (split <;> omega) | (refine And.intro ?_ ?_ <;> split <;> omega)) | omega) (by (try dsimp only) <;> first | assumption | omega | ((try simp (disch := omega) only [w32_of, w64_of, w8_of]) <;> first | assumption | omega | (split <;> omega) | (refine And.intro ?_ ?_ <;> split <;> omega)) | omega) (fun x_17 e_x_17 => ?_)
        have b_x_17 : 0 ≤ x_17 ∧ x_17 ≤ 1 := by rw [e_x_17]; exact ii_kG_isBoundary hσ_4 _
        rw [FC_at frσ_4 (c := kG_isBoundary) (by first | decide | (rcases hE with rfl | rfl | rfl <;> decide))] at e_x_17
        try simp (disch := omega) only [w32_of, w64_of, w8_of] at e_x_17
        have c10 := ii_kG_isBoundary hσ_4 piece_3
        have c11 := FC_at frσ_4 (c := kG_isBoundary) (by first | decide | (rcases hE with rfl | rfl | rfl <;> decide)) piece_3
        have c12 := ii_kG_isBoundary hσ piece_3
        refine wp_if (fun c13 => ?_) (fun c13 => ?_)
        · try simp (disch := omega) only [w32_of, w64_of, w8_of, decide_eq_true_eq, decide_eq_false_iff_not, Bool.not_eq_true] at c13
          refine wp_rdI (by (try dsimp only) <;> first | assumption | omega | ((try simp (disch := omega) only [w32_of, w64_of, w8_of]) <;> first | assumption | omega | (split <;> omega) | (refine And.intro ?_ ?_ <;> split <;> omega)) | omega) (by (try dsimp only) <;> first | assumption | omega | ((try simp (disch := omega) only [w32_of, w64_of, w8_of]) <;> first | assumption | omega | (split <;> omega) | (refine And.intro ?_ ?_ <;> split <;> omega)) | omega) (fun x_20 e_x_20 => ?_)
          have b_x_20 : 0 ≤ x_20 ∧ x_20 ≤ 8191 := by rw [e_x_20]; exact ii_kN_pieceFrom hσ_4 _
          rw [FC_at frσ_4 (c := kN_pieceFrom) (by first | decide | (rcases hE with rfl | rfl | rfl <;> decide))] at e_x_20
          try simp (disch := omega) only [w32_of, w64_of, w8_of] at e_x_20
          have c14 := ii_kN_pieceFrom hσ_4 piece_3
          have c15 := FC_at frσ_4 (c := kN_pieceFrom) (by first | decide | (rcases hE with rfl | rfl | rfl <;> decide)) piece_3
          have c16 := ii_kN_pieceFrom hσ piece_3
          have hpf := w0 piece_3 (by omega) (by omega)
          rw [← e_x_20] at hpf
          have hb22 := I1_b i1 (by omega) (h := x_20) hpf.1.1 hpf.1.2
          have c17 := w32_rng (x_20 + 2)
          refine wp_rdI (by (try dsimp only) <;> first | assumption | omega | ((try simp (disch := omega) only [w32_of, w64_of, w8_of]) <;> first | assumption | omega | (split <;> omega) | (refine And.intro ?_ ?_ <;> split <;> omega)) | omega) (by (try dsimp only) <;> first | assumption | omega | ((try simp (disch := omega) only [w32_of, w64_of, w8_of]) <;> first | assumption | omega | (split <;> omega) | (refine And.intro ?_ ?_ <;> split <;> omega)) | omega) (fun x_22 e_x_22 => ?_)
          have b_x_22 : 0 ≤ x_22 ∧ x_22 ≤ 32768 := by rw [e_x_22]; exact ii_kG_begin hσ_4 _
          try simp (disch := omega) only [w32_of, w64_of, w8_of] at e_x_22
          have c18 := ii_kG_begin hσ_4 (x_20 + 2)
          rw [← e_x_22] at hb22
          refine wp_waI hσ_4 b_kG_begin (by (try dsimp only) <;> first | assumption | omega | ((try simp (disch := omega) only [w32_of, w64_of, w8_of]) <;> first | assumption | omega | (split <;> omega) | (refine And.intro ?_ ?_ <;> split <;> omega)) | omega) (by (try dsimp only) <;> first | assumption | omega | ((try simp (disch := omega) only [w32_of, w64_of, w8_of]) <;> first | assumption | omega | (split <;> omega) | (refine And.intro ?_ ?_ <;> split <;> omega)) | omega) (by (try dsimp only) <;> first | assumption | omega | ((try simp (disch := omega) only [w32_of, w64_of, w8_of]) <;> first | assumption | omega | (split <;> omega) | (refine And.intro ?_ ?_ <;> split <;> omega)) | omega) (fun σ_24 hσ_24 eσ_24 => ?_)
          try simp (disch := omega) only [w32_of, w64_of, w8_of] at eσ_24
          have flσ_24 := FC_sg eσ_24 (by first | decide | (rcases hE with rfl | rfl | rfl <;> decide))
          have frσ_24 : FC [kG_begin, kG_incident] [] σ σ_24 := FC_tr frσ_4 flσ_24 (by first | decide | (rcases hE with rfl | rfl | rfl <;> decide)) (by first | decide | (rcases hE with rfl | rfl | rfl <;> decide)) (by simp) (by simp)
          refine wp_rdI (by (try dsimp only) <;> first | assumption | omega | ((try simp (disch := omega) only [w32_of, w64_of, w8_of]) <;> first | assumption | omega | (split <;> omega) | (refine And.intro ?_ ?_ <;> split <;> omega)) | omega) (by (try dsimp only) <;> first | assumption | omega | ((try simp (disch := omega) only [w32_of, w64_of, w8_of]) <;> first | assumption | omega | (split <;> omega) | (refine And.intro ?_ ?_ <;> split <;> omega)) | omega) (fun x_26 e_x_26 => ?_)
          have b_x_26 : 0 ≤ x_26 ∧ x_26 ≤ 8191 := by rw [e_x_26]; exact ii_kN_pieceTo hσ_24 _
          rw [FC_at frσ_24 (c := kN_pieceTo) (by first | decide | (rcases hE with rfl | rfl | rfl <;> decide))] at e_x_26
          try simp (disch := omega) only [w32_of, w64_of, w8_of] at e_x_26
          have c19 := ii_kN_pieceTo hσ_24 piece_3
          have c20 := FC_at flσ_24 (c := kN_pieceTo) (by first | decide | (rcases hE with rfl | rfl | rfl <;> decide)) piece_3
          have c21 := ii_kN_pieceTo hσ_4 piece_3
          have c22 := FC_at frσ_4 (c := kN_pieceTo) (by first | decide | (rcases hE with rfl | rfl | rfl <;> decide)) piece_3
          have c23 := ii_kN_pieceTo hσ piece_3
          rw [← e_x_26] at hpf
          have c24 := w32_rng (x_26 + 2)
          refine wp_rdI (by (try dsimp only) <;> first | assumption | omega | ((try simp (disch := omega) only [w32_of, w64_of, w8_of]) <;> first | assumption | omega | (split <;> omega) | (refine And.intro ?_ ?_ <;> split <;> omega)) | omega) (by (try dsimp only) <;> first | assumption | omega | ((try simp (disch := omega) only [w32_of, w64_of, w8_of]) <;> first | assumption | omega | (split <;> omega) | (refine And.intro ?_ ?_ <;> split <;> omega)) | omega) (fun x_28 e_x_28 => ?_)
          have b_x_28 : 0 ≤ x_28 ∧ x_28 ≤ 32768 := by rw [e_x_28]; exact ii_kG_begin hσ_24 _
          try simp (disch := omega) only [w32_of, w64_of, w8_of] at e_x_28
          have c25 := ii_kG_begin hσ_24 (x_26 + 2)
          have hb28 : x_28 ≤ 2 * piece_3 + 1 := by rw [e_x_28, eσ_24]; exact (if z : x_26 + 2 = x_20 + 2 then (by rw [z, sg_at]; omega) else (by rw [sg_ni z]; have := I1_b i1 (by omega) (h := x_26) hpf.2.1 hpf.2.2; omega))
          refine wp_waI hσ_24 b_kG_begin (by (try dsimp only) <;> first | assumption | omega | ((try simp (disch := omega) only [w32_of, w64_of, w8_of]) <;> first | assumption | omega | (split <;> omega) | (refine And.intro ?_ ?_ <;> split <;> omega)) | omega) (by (try dsimp only) <;> first | assumption | omega | ((try simp (disch := omega) only [w32_of, w64_of, w8_of]) <;> first | assumption | omega | (split <;> omega) | (refine And.intro ?_ ?_ <;> split <;> omega)) | omega) (by (try dsimp only) <;> first | assumption | omega | ((try simp (disch := omega) only [w32_of, w64_of, w8_of]) <;> first | assumption | omega | (split <;> omega) | (refine And.intro ?_ ?_ <;> split <;> omega)) | omega) (fun σ_30 hσ_30 eσ_30 => ?_)
          try simp (disch := omega) only [w32_of, w64_of, w8_of] at eσ_30
          have flσ_30 := FC_sg eσ_30 (by first | decide | (rcases hE with rfl | rfl | rfl <;> decide))
          have frσ_30 : FC [kG_begin, kG_incident] [] σ σ_30 := FC_tr frσ_24 flσ_30 (by first | decide | (rcases hE with rfl | rfl | rfl <;> decide)) (by first | decide | (rcases hE with rfl | rfl | rfl <;> decide)) (by simp) (by simp)
          exact wp_some ⟨hσ_30, frσ_30, (by (try dsimp only) <;> (first | exact I1_t (s1 := σ_24) i1 (by omega) (by rw [← e_x_17]; assumption) e_x_20 e_x_26 (by omega) (by omega) (by rw [← e_x_22]; exact eσ_24) (by rw [← e_x_28]; exact eσ_30) | exact I1_e i1 (by omega) (by rw [← e_x_17]; first | assumption | exact Bool.eq_false_iff.mp (by assumption))))⟩
        · try simp (disch := omega) only [w32_of, w64_of, w8_of, decide_eq_true_eq, decide_eq_false_iff_not, Bool.not_eq_true] at c13
          exact wp_some ⟨hσ_4, frσ_4, (by (try dsimp only) <;> (first | exact I1_t (s1 := σ_24) i1 (by omega) (by rw [← e_x_17]; assumption) e_x_20 e_x_26 (by omega) (by omega) (by rw [← e_x_22]; exact eσ_24) (by rw [← e_x_28]; exact eσ_30) | exact I1_e i1 (by omega) (by rw [← e_x_17]; first | assumption | exact Bool.eq_false_iff.mp (by assumption))))⟩
      rintro σ_34 _ ⟨hσ_34, frσ_34, i34⟩
      exact wp_some (x_inl ⟨⟨hσ_34, frσ_34, (by (try dsimp only) <;> first | assumption | omega | ((try simp (disch := omega) only [w32_of, w64_of, w8_of]) <;> first | assumption | omega | (split <;> omega) | (refine And.intro ?_ ?_ <;> split <;> omega)) | omega), (by (try dsimp only) <;> (first | exact I1_z hH.1 hz rfl | exact i34))⟩, (by (try dsimp only) <;> first | assumption | omega | ((try simp (disch := omega) only [w32_of, w64_of, w8_of]) <;> first | assumption | omega | (split <;> omega) | (refine And.intro ?_ ?_ <;> split <;> omega)) | omega)⟩)
    · try simp (disch := omega) only [w32_of, w64_of, w8_of, decide_eq_true_eq, decide_eq_false_iff_not, Bool.not_eq_true] at c5
      exact wp_some (x_inr ⟨hσ_4, frσ_4, (by (try dsimp only) <;> (rw [show σ kN_pieces 0 = piece_3 by omega]; exact i1))⟩)
  rintro ⟨piece_38, σ_39⟩ _ y26
  try dsimp only at y26 ⊢
  obtain ⟨hσ_39, frσ_39, i39⟩ := y26
  refine wp_bd (P := fun rr_ => II rr_.2 ∧ FC [kG_begin, kG_incident] [] σ rr_.2 ∧ (I2_ σ rr_.2 (σ kN_pieces 0) (σ kN_hot 0 + 2) (σ kN_hot 0))) ?_ ?_
  · have c27 := ii_kN_pieces hσ 0
    refine wp_whl (fun ss_ => II ss_.2 ∧ FC [kG_begin, kG_incident] [] σ ss_.2 ∧ (2 ≤ ss_.1 ∧ ss_.1 ≤ σ kN_hot 0 + 2) ∧ (I2_ σ ss_.2 (σ kN_pieces 0) ss_.1 (σ kN_hot 0))) (fun ss_ => (8195 - ss_.1).toNat) ⟨hσ_39, frσ_39, (by (try dsimp only) <;> first | assumption | omega | ((try simp (disch := omega) only [w32_of, w64_of, w8_of]) <;> first | assumption | omega | (split <;> omega) | (refine And.intro ?_ ?_ <;> split <;> omega)) | omega), (by (try dsimp only) <;> (first | exact I2_0 i39 | exact I2_g i2 (by omega) (by omega) (by rw [← e_x_50, ← e_x_52]; exact eσ_54)))⟩ ?_
    rintro ⟨h_40, σ_41⟩ y29
    try dsimp only at y29 ⊢
    obtain ⟨hσ_41, frσ_41, g28, i2⟩ := y29
    have c31 := w32_rng h_40
    have c32 := w32_rng ((σ kN_hot 0) + 2)
    refine wp_if (fun c30 => ?_) (fun c30 => ?_)
    · try simp (disch := omega) only [w32_of, w64_of, w8_of, decide_eq_true_eq, decide_eq_false_iff_not, Bool.not_eq_true] at c30
      refine wp_rdI (by (try dsimp only) <;> first | assumption | omega | ((try simp (disch := omega) only [w32_of, w64_of, w8_of]) <;> first | assumption | omega | (split <;> omega) | (refine And.intro ?_ ?_ <;> split <;> omega)) | omega) (by (try dsimp only) <;> first | assumption | omega | ((try simp (disch := omega) only [w32_of, w64_of, w8_of]) <;> first | assumption | omega | (split <;> omega) | (refine And.intro ?_ ?_ <;> split <;> omega)) | omega) (fun x_50 e_x_50 => ?_)
      have b_x_50 : 0 ≤ x_50 ∧ x_50 ≤ 32768 := by rw [e_x_50]; exact ii_kG_begin hσ_41 _
      try simp (disch := omega) only [w32_of, w64_of, w8_of] at e_x_50
      have c33 := ii_kG_begin hσ_41 h_40
      have c34 := w32_rng (h_40 - 1)
      refine wp_rdI (by (try dsimp only) <;> first | assumption | omega | ((try simp (disch := omega) only [w32_of, w64_of, w8_of]) <;> first | assumption | omega | (split <;> omega) | (refine And.intro ?_ ?_ <;> split <;> omega)) | omega) (by (try dsimp only) <;> first | assumption | omega | ((try simp (disch := omega) only [w32_of, w64_of, w8_of]) <;> first | assumption | omega | (split <;> omega) | (refine And.intro ?_ ?_ <;> split <;> omega)) | omega) (fun x_52 e_x_52 => ?_)
      have b_x_52 : 0 ≤ x_52 ∧ x_52 ≤ 32768 := by rw [e_x_52]; exact ii_kG_begin hσ_41 _
      try simp (disch := omega) only [w32_of, w64_of, w8_of] at e_x_52
      have c35 := ii_kG_begin hσ_41 (h_40 - 1)
      have hv := I2_v i2 (by omega) (by omega)
      rw [← e_x_50, ← e_x_52] at hv
      have hs := sms_b (σ := σ) (P := σ kN_pieces 0) (h := h_40 - 1) (by omega)
      have hs0 := sms_0 (σ := σ) (P := σ kN_pieces 0) (h := h_40 - 1) (by omega)
      refine wp_waI hσ_41 b_kG_begin (by (try dsimp only) <;> first | assumption | omega | ((try simp (disch := omega) only [w32_of, w64_of, w8_of]) <;> first | assumption | omega | (split <;> omega) | (refine And.intro ?_ ?_ <;> split <;> omega)) | omega) (by (try dsimp only) <;> first | assumption | omega | ((try simp (disch := omega) only [w32_of, w64_of, w8_of]) <;> first | assumption | omega | (split <;> omega) | (refine And.intro ?_ ?_ <;> split <;> omega)) | omega) (by (try dsimp only) <;> first | assumption | omega | ((try simp (disch := omega) only [w32_of, w64_of, w8_of]) <;> first | assumption | omega | (split <;> omega) | (refine And.intro ?_ ?_ <;> split <;> omega)) | omega) (fun σ_54 hσ_54 eσ_54 => ?_)
      try simp (disch := omega) only [w32_of, w64_of, w8_of] at eσ_54
      have flσ_54 := FC_sg eσ_54 (by first | decide | (rcases hE with rfl | rfl | rfl <;> decide))
      have frσ_54 : FC [kG_begin, kG_incident] [] σ σ_54 := FC_tr frσ_41 flσ_54 (by first | decide | (rcases hE with rfl | rfl | rfl <;> decide)) (by first | decide | (rcases hE with rfl | rfl | rfl <;> decide)) (by simp) (by simp)
      exact wp_some (x_inl ⟨⟨hσ_54, frσ_54, (by (try dsimp only) <;> first | assumption | omega | ((try simp (disch := omega) only [w32_of, w64_of, w8_of]) <;> first | assumption | omega | (split <;> omega) | (refine And.intro ?_ ?_ <;> split <;> omega)) | omega), (by (try dsimp only) <;> (first | exact I2_0 i39 | exact I2_g i2 (by omega) (by omega) (by rw [← e_x_50, ← e_x_52]; exact eσ_54)))⟩, (by (try dsimp only) <;> first | assumption | omega | ((try simp (disch := omega) only [w32_of, w64_of, w8_of]) <;> first | assumption | omega | (split <;> omega) | (refine And.intro ?_ ?_ <;> split <;> omega)) | omega)⟩)
    · try simp (disch := omega) only [w32_of, w64_of, w8_of, decide_eq_true_eq, decide_eq_false_iff_not, Bool.not_eq_true] at c30
      exact wp_some (x_inr ⟨hσ_41, frσ_41, (by (try dsimp only) <;> (rw [show σ kN_hot 0 + 2 = h_40 by omega]; exact i2))⟩)
  rintro ⟨h_58, σ_59⟩ _ y36
  try dsimp only at y36 ⊢
  obtain ⟨hσ_59, frσ_59, i59⟩ := y36
  refine wp_bd (P := fun rr_ => II rr_.2 ∧ FC [kG_begin, kG_incident] [] σ rr_.2 ∧ (True)) ?_ ?_
  · have c37 := ii_kN_pieces hσ 0
    refine wp_whl (fun ss_ => II ss_.2 ∧ FC [kG_begin, kG_incident] [] σ ss_.2 ∧ (0 ≤ ss_.1 ∧ ss_.1 ≤ σ kN_pieces 0) ∧ (I3_ σ ss_.2 (σ kN_pieces 0) ss_.1 (σ kN_hot 0))) (fun ss_ => (16385 - ss_.1).toNat) ⟨hσ_59, frσ_59, (by (try dsimp only) <;> first | assumption | omega | ((try simp (disch := omega) only [w32_of, w64_of, w8_of]) <;> first | assumption | omega | (split <;> omega) | (refine And.intro ?_ ?_ <;> split <;> omega)) | omega), (by (try dsimp only) <;> (first | exact I3_0 i59 (by omega) | exact i87))⟩ ?_
    rintro ⟨piece_60, σ_61⟩ y39
    try dsimp only at y39 ⊢
    obtain ⟨hσ_61, frσ_61, g38, i3⟩ := y39
    have c41 := w32_rng piece_60
    have c42 := ii_kN_pieces hσ_61 0
    have c43 := FC_at frσ_61 (c := kN_pieces) (by first | decide | (rcases hE with rfl | rfl | rfl <;> decide)) 0
    have c44 := w32_rng (σ_61 kN_pieces 0)
    refine wp_if (fun c40 => ?_) (fun c40 => ?_)
    · try simp (disch := omega) only [w32_of, w64_of, w8_of, decide_eq_true_eq, decide_eq_false_iff_not, Bool.not_eq_true] at c40
      refine wp_bd (P := fun rr_ => II rr_ ∧ FC [kG_begin, kG_incident] [] σ rr_ ∧ (I3_ σ rr_ (σ kN_pieces 0) (piece_60 + 1) (σ kN_hot 0))) ?_ ?_
      · refine wp_rdI (by (try dsimp only) <;> first | assumption | omega | ((try simp (disch := omega) only [w32_of, w64_of, w8_of]) <;> first | assumption | omega | (split <;> omega) | (refine And.intro ?_ ?_ <;> split <;> omega)) | omega) (by (try dsimp only) <;> first | assumption | omega | ((try simp (disch := omega) only [w32_of, w64_of, w8_of]) <;> first | assumption | omega | (split <;> omega) | (refine And.intro ?_ ?_ <;> split <;> omega)) | omega) (fun x_74 e_x_74 => ?_)
        have b_x_74 : 0 ≤ x_74 ∧ x_74 ≤ 1 := by rw [e_x_74]; exact ii_kG_isBoundary hσ_61 _
        rw [FC_at frσ_61 (c := kG_isBoundary) (by first | decide | (rcases hE with rfl | rfl | rfl <;> decide))] at e_x_74
        try simp (disch := omega) only [w32_of, w64_of, w8_of] at e_x_74
        have c45 := ii_kG_isBoundary hσ_61 piece_60
        have c46 := FC_at frσ_61 (c := kG_isBoundary) (by first | decide | (rcases hE with rfl | rfl | rfl <;> decide)) piece_60
        have c47 := ii_kG_isBoundary hσ piece_60
        refine wp_if (fun c48 => ?_) (fun c48 => ?_)
        · try simp (disch := omega) only [w32_of, w64_of, w8_of, decide_eq_true_eq, decide_eq_false_iff_not, Bool.not_eq_true] at c48
          refine wp_rdI (by (try dsimp only) <;> first | assumption | omega | ((try simp (disch := omega) only [w32_of, w64_of, w8_of]) <;> first | assumption | omega | (split <;> omega) | (refine And.intro ?_ ?_ <;> split <;> omega)) | omega) (by (try dsimp only) <;> first | assumption | omega | ((try simp (disch := omega) only [w32_of, w64_of, w8_of]) <;> first | assumption | omega | (split <;> omega) | (refine And.intro ?_ ?_ <;> split <;> omega)) | omega) (fun x_77 e_x_77 => ?_)
          have b_x_77 : 0 ≤ x_77 ∧ x_77 ≤ 8191 := by rw [e_x_77]; exact ii_kN_pieceFrom hσ_61 _
          rw [FC_at frσ_61 (c := kN_pieceFrom) (by first | decide | (rcases hE with rfl | rfl | rfl <;> decide))] at e_x_77
          try simp (disch := omega) only [w32_of, w64_of, w8_of] at e_x_77
          have c49 := ii_kN_pieceFrom hσ_61 piece_60
          have c50 := FC_at frσ_61 (c := kN_pieceFrom) (by first | decide | (rcases hE with rfl | rfl | rfl <;> decide)) piece_60
          have c51 := ii_kN_pieceFrom hσ piece_60
          have hpf := w0 piece_60 (by omega) (by omega)
          have hbb := I3_b1 i3 (by omega) (by omega) (by rw [← e_x_74]; assumption) e_x_77 rfl (by rw [e_x_77]; exact hpf.1) hpf.2
          have c52 := ii_kG_begin hσ_61 (x_77 + 1)
          refine wp_bd (s_G_addIncident (σ := σ_61) (h_0 := x_77) (piece_0 := piece_60) hσ_61 (by (try dsimp only) <;> first | assumption | omega | ((try simp (disch := omega) only [w32_of, w64_of, w8_of]) <;> first | assumption | omega | (split <;> omega) | (refine And.intro ?_ ?_ <;> split <;> omega)) | omega) (by (try dsimp only) <;> first | assumption | omega | ((try simp (disch := omega) only [w32_of, w64_of, w8_of]) <;> first | assumption | omega | (split <;> omega) | (refine And.intro ?_ ?_ <;> split <;> omega)) | omega) (by (try dsimp only) <;> first | assumption | omega | ((try simp (disch := omega) only [w32_of, w64_of, w8_of]) <;> first | assumption | omega | (split <;> omega) | (refine And.intro ?_ ?_ <;> split <;> omega)) | omega)) ?_
          rintro σ_80 - ⟨hσ_80, flσ_80, a1, a2⟩
          have frσ_80 : FC [kG_begin, kG_incident] [] σ σ_80 := FC_tr frσ_61 flσ_80 (by first | decide | (rcases hE with rfl | rfl | rfl <;> decide)) (by first | decide | (rcases hE with rfl | rfl | rfl <;> decide)) (by simp) (by simp)
          have c53 := ii_kG_begin hσ_80 (x_77 + 1)
          try simp (disch := omega) only [w32_of, w64_of, w8_of] at a1
          try simp (disch := omega) only [w32_of, w64_of, w8_of] at a2
          refine wp_rdI (by (try dsimp only) <;> first | assumption | omega | ((try simp (disch := omega) only [w32_of, w64_of, w8_of]) <;> first | assumption | omega | (split <;> omega) | (refine And.intro ?_ ?_ <;> split <;> omega)) | omega) (by (try dsimp only) <;> first | assumption | omega | ((try simp (disch := omega) only [w32_of, w64_of, w8_of]) <;> first | assumption | omega | (split <;> omega) | (refine And.intro ?_ ?_ <;> split <;> omega)) | omega) (fun x_81 e_x_81 => ?_)
          have b_x_81 : 0 ≤ x_81 ∧ x_81 ≤ 8191 := by rw [e_x_81]; exact ii_kN_pieceTo hσ_80 _
          rw [FC_at frσ_80 (c := kN_pieceTo) (by first | decide | (rcases hE with rfl | rfl | rfl <;> decide))] at e_x_81
          try simp (disch := omega) only [w32_of, w64_of, w8_of] at e_x_81
          have c54 := ii_kN_pieceTo hσ_80 piece_60
          have c55 := FC_at flσ_80 (c := kN_pieceTo) (by first | decide | (rcases hE with rfl | rfl | rfl <;> decide)) piece_60
          have c56 := ii_kN_pieceTo hσ_61 piece_60
          have c57 := FC_at frσ_61 (c := kN_pieceTo) (by first | decide | (rcases hE with rfl | rfl | rfl <;> decide)) piece_60
          have c58 := ii_kN_pieceTo hσ piece_60
          rw [← e_x_81] at hbb hpf
          have hb8 : σ_80 kG_begin (x_81 + 1) ≤ 32767 := (if z : x_81 + 1 = x_77 + 1 then (by rw [z, a1]; have := hbb.2.1 (by omega); omega) else (by rw [a2 _ z]; omega))
          have c59 := ii_kG_begin hσ_80 (x_81 + 1)
          refine wp_bd (s_G_addIncident (σ := σ_80) (h_0 := x_81) (piece_0 := piece_60) hσ_80 (by (try dsimp only) <;> first | assumption | omega | ((try simp (disch := omega) only [w32_of, w64_of, w8_of]) <;> first | assumption | omega | (split <;> omega) | (refine And.intro ?_ ?_ <;> split <;> omega)) | omega) (by (try dsimp only) <;> first | assumption | omega | ((try simp (disch := omega) only [w32_of, w64_of, w8_of]) <;> first | assumption | omega | (split <;> omega) | (refine And.intro ?_ ?_ <;> split <;> omega)) | omega) (by (try dsimp only) <;> first | assumption | omega | ((try simp (disch := omega) only [w32_of, w64_of, w8_of]) <;> first | assumption | omega | (split <;> omega) | (refine And.intro ?_ ?_ <;> split <;> omega)) | omega)) ?_
          rintro σ_84 - ⟨hσ_84, flσ_84, b1, b2⟩
          have frσ_84 : FC [kG_begin, kG_incident] [] σ σ_84 := FC_tr frσ_80 flσ_84 (by first | decide | (rcases hE with rfl | rfl | rfl <;> decide)) (by first | decide | (rcases hE with rfl | rfl | rfl <;> decide)) (by simp) (by simp)
          have c60 := ii_kG_begin hσ_84 (x_81 + 1)
          try simp (disch := omega) only [w32_of, w64_of, w8_of] at b1
          try simp (disch := omega) only [w32_of, w64_of, w8_of] at b2
          exact wp_some ⟨hσ_84, frσ_84, (by (try dsimp only) <;> (first | exact I3_t i3 (by omega) (by rw [← e_x_74]; assumption) e_x_77 e_x_81 a1 a2 b1 b2 | exact I3_e i3 (by omega) (by rw [← e_x_74]; first | assumption | exact Bool.eq_false_iff.mp (by assumption))))⟩
        · try simp (disch := omega) only [w32_of, w64_of, w8_of, decide_eq_true_eq, decide_eq_false_iff_not, Bool.not_eq_true] at c48
          exact wp_some ⟨hσ_61, frσ_61, (by (try dsimp only) <;> (first | exact I3_t i3 (by omega) (by rw [← e_x_74]; assumption) e_x_77 e_x_81 a1 a2 b1 b2 | exact I3_e i3 (by omega) (by rw [← e_x_74]; first | assumption | exact Bool.eq_false_iff.mp (by assumption))))⟩
      rintro σ_87 _ ⟨hσ_87, frσ_87, i87⟩
      exact wp_some (x_inl ⟨⟨hσ_87, frσ_87, (by (try dsimp only) <;> first | assumption | omega | ((try simp (disch := omega) only [w32_of, w64_of, w8_of]) <;> first | assumption | omega | (split <;> omega) | (refine And.intro ?_ ?_ <;> split <;> omega)) | omega), (by (try dsimp only) <;> (first | exact I3_0 i59 (by omega) | exact i87))⟩, (by (try dsimp only) <;> first | assumption | omega | ((try simp (disch := omega) only [w32_of, w64_of, w8_of]) <;> first | assumption | omega | (split <;> omega) | (refine And.intro ?_ ?_ <;> split <;> omega)) | omega)⟩)
    · try simp (disch := omega) only [w32_of, w64_of, w8_of, decide_eq_true_eq, decide_eq_false_iff_not, Bool.not_eq_true] at c40
      exact wp_some (x_inr ⟨hσ_61, frσ_61, (by (try dsimp only) <;> first | assumption | omega | ((try simp (disch := omega) only [w32_of, w64_of, w8_of]) <;> first | assumption | omega | (split <;> omega) | (refine And.intro ?_ ?_ <;> split <;> omega)) | omega)⟩)
  rintro ⟨piece_91, σ_92⟩ _ y62
  try dsimp only at y62 ⊢
  obtain ⟨hσ_92, frσ_92, g61⟩ := y62
  exact wp_some ⟨hσ_92, frσ_92⟩
theorem s_G_firstNotBelow {σ : SG} {h_0 : Int} (hσ : II σ) (w0 : 0 ≤ h_0 ∧ h_0 ≤ 8191) : wp_ (fG_firstNotBelow σ h_0) (fun zz_ => (0 ≤ zz_ ∧ zz_ ≤ σ kG_actives 0)) := by
  unfold fG_firstNotBelow
  refine wp_bd (P := fun rr_ => (0 ≤ rr_.1 ∧ rr_.1 ≤ σ kG_actives 0)) ?_ ?_
  · have c1 := ii_kG_actives hσ 0
    refine wp_whl (fun ss_ => (0 ≤ ss_.1 ∧ ss_.1 ≤ ss_.2 ∧ ss_.2 ≤ σ kG_actives 0)) (fun ss_ => (ss_.2 - ss_.1).toNat) (by (try dsimp only) <;> first | assumption | omega | ((try simp (disch := omega) only [w32_of, w64_of, w8_of]) <;> first | assumption | omega | (split <;> omega) | (refine And.intro ?_ ?_ <;> split <;> omega)) | omega) ?_
    rintro ⟨low_1, high_2⟩ y3
    try dsimp only at y3 ⊢
    have g2 := y3
    have c5 := w32_rng low_1
    have c6 := w32_rng high_2
    refine wp_if (fun c4 => ?_) (fun c4 => ?_)
    · try simp (disch := omega) only [w32_of, w64_of, w8_of, decide_eq_true_eq, decide_eq_false_iff_not, Bool.not_eq_true] at c4
      have c7 := q_idv2 (high_2 - low_1) (by (try dsimp only) <;> first | assumption | omega | ((try simp (disch := omega) only [w32_of, w64_of, w8_of]) <;> first | assumption | omega | (split <;> omega) | (refine And.intro ?_ ?_ <;> split <;> omega)) | omega)
      try simp (disch := omega) only [w32_of, w64_of, w8_of] at c7
      have c8 := w32_rng (low_1 + (q_idv (high_2 - low_1) 2))
      refine wp_rdI (by (try dsimp only) <;> first | assumption | omega | ((try simp (disch := omega) only [w32_of, w64_of, w8_of]) <;> first | assumption | omega | (split <;> omega) | (refine And.intro ?_ ?_ <;> split <;> omega)) | omega) (by (try dsimp only) <;> first | assumption | omega | ((try simp (disch := omega) only [w32_of, w64_of, w8_of]) <;> first | assumption | omega | (split <;> omega) | (refine And.intro ?_ ?_ <;> split <;> omega)) | omega) (fun x_11 e_x_11 => ?_)
      have b_x_11 : 0 ≤ x_11 ∧ x_11 ≤ 16383 := by rw [e_x_11]; exact ii_kG_active hσ _
      try simp (disch := omega) only [w32_of, w64_of, w8_of] at e_x_11
      have c9 := ii_kG_active hσ (low_1 + (q_idv (high_2 - low_1) 2))
      refine wp_bd (P := fun rr_ => (0 ≤ rr_.1 ∧ rr_.1 ≤ rr_.2 ∧ rr_.2 ≤ high_2 ∧ low_1 ≤ rr_.1 ∧ (low_1 < rr_.1 ∨ rr_.2 < high_2))) ?_ ?_
      · have c10 := w32_rng x_11
        refine wp_rdI (by (try dsimp only) <;> first | assumption | omega | ((try simp (disch := omega) only [w32_of, w64_of, w8_of]) <;> first | assumption | omega | (split <;> omega) | (refine And.intro ?_ ?_ <;> split <;> omega)) | omega) (by (try dsimp only) <;> first | assumption | omega | ((try simp (disch := omega) only [w32_of, w64_of, w8_of]) <;> first | assumption | omega | (split <;> omega) | (refine And.intro ?_ ?_ <;> split <;> omega)) | omega) (fun x_17 e_x_17 => ?_)
        have b_x_17 : 0 ≤ x_17 ∧ x_17 ≤ 8191 := by rw [e_x_17]; exact ii_kN_pieceFrom hσ _
        try simp (disch := omega) only [w32_of, w64_of, w8_of] at e_x_17
        have c11 := ii_kN_pieceFrom hσ x_11
        refine wp_rdI (by (try dsimp only) <;> first | assumption | omega | ((try simp (disch := omega) only [w32_of, w64_of, w8_of]) <;> first | assumption | omega | (split <;> omega) | (refine And.intro ?_ ?_ <;> split <;> omega)) | omega) (by (try dsimp only) <;> first | assumption | omega | ((try simp (disch := omega) only [w32_of, w64_of, w8_of]) <;> first | assumption | omega | (split <;> omega) | (refine And.intro ?_ ?_ <;> split <;> omega)) | omega) (fun x_19 e_x_19 => ?_)
        have b_x_19 : 0 ≤ x_19 ∧ x_19 ≤ 8191 := by rw [e_x_19]; exact ii_kN_pieceTo hσ _
        try simp (disch := omega) only [w32_of, w64_of, w8_of] at e_x_19
        have c12 := ii_kN_pieceTo hσ x_11
        refine wp_bd (s_G_turnAt (σ := σ) (a_0 := x_17) (b_0 := x_19) (c_0 := h_0) hσ (by (try dsimp only) <;> first | assumption | omega | ((try simp (disch := omega) only [w32_of, w64_of, w8_of]) <;> first | assumption | omega | (split <;> omega) | (refine And.intro ?_ ?_ <;> split <;> omega)) | omega) (by (try dsimp only) <;> first | assumption | omega | ((try simp (disch := omega) only [w32_of, w64_of, w8_of]) <;> first | assumption | omega | (split <;> omega) | (refine And.intro ?_ ?_ <;> split <;> omega)) | omega) (by (try dsimp only) <;> first | assumption | omega | ((try simp (disch := omega) only [w32_of, w64_of, w8_of]) <;> first | assumption | omega | (split <;> omega) | (refine And.intro ?_ ?_ <;> split <;> omega)) | omega)) ?_
        rintro x_22 - g13
        try simp (disch := omega) only [w32_of, w64_of, w8_of] at g13
        have c15 := w32_rng x_22
        refine wp_if (fun c14 => ?_) (fun c14 => ?_)
        · try simp (disch := omega) only [w32_of, w64_of, w8_of, decide_eq_true_eq, decide_eq_false_iff_not, Bool.not_eq_true] at c14
          exact wp_some (by (try dsimp only) <;> first | assumption | omega | ((try simp (disch := omega) only [w32_of, w64_of, w8_of]) <;> first | assumption | omega | (split <;> omega) | (refine And.intro ?_ ?_ <;> split <;> omega)) | omega)
        · try simp (disch := omega) only [w32_of, w64_of, w8_of, decide_eq_true_eq, decide_eq_false_iff_not, Bool.not_eq_true] at c14
          exact wp_some (by (try dsimp only) <;> first | assumption | omega | ((try simp (disch := omega) only [w32_of, w64_of, w8_of]) <;> first | assumption | omega | (split <;> omega) | (refine And.intro ?_ ?_ <;> split <;> omega)) | omega)
      rintro ⟨low_26, high_27⟩ _ y17
      try dsimp only at y17 ⊢
      have g16 := y17
      exact wp_some (x_inl ⟨(by (try dsimp only) <;> first | assumption | omega | ((try simp (disch := omega) only [w32_of, w64_of, w8_of]) <;> first | assumption | omega | (split <;> omega) | (refine And.intro ?_ ?_ <;> split <;> omega)) | omega), (by (try dsimp only) <;> first | assumption | omega | ((try simp (disch := omega) only [w32_of, w64_of, w8_of]) <;> first | assumption | omega | (split <;> omega) | (refine And.intro ?_ ?_ <;> split <;> omega)) | omega)⟩)
    · try simp (disch := omega) only [w32_of, w64_of, w8_of, decide_eq_true_eq, decide_eq_false_iff_not, Bool.not_eq_true] at c4
      exact wp_some (x_inr (by (try dsimp only) <;> first | assumption | omega | ((try simp (disch := omega) only [w32_of, w64_of, w8_of]) <;> first | assumption | omega | (split <;> omega) | (refine And.intro ?_ ?_ <;> split <;> omega)) | omega))
  rintro ⟨low_31, high_32⟩ _ y19
  try dsimp only at y19 ⊢
  have g18 := y19
  have c20 := ii_kG_actives hσ 0
  exact wp_some (by (try dsimp only) <;> first | assumption | omega | ((try simp (disch := omega) only [w32_of, w64_of, w8_of]) <;> first | assumption | omega | (split <;> omega) | (refine And.intro ?_ ?_ <;> split <;> omega)) | omega)
theorem s_G_replaceActive {σ : SG} {low_0 : Int} {high_0 : Int} {begun_0 : Int} {fresh_0 : Int} (hσ : II σ) (w0 : 0 ≤ low_0 ∧ low_0 ≤ high_0 ∧ high_0 ≤ σ kG_actives 0) (w1 : 0 ≤ begun_0 ∧ begun_0 ≤ fresh_0 ∧ fresh_0 ≤ 16384) (w2 : σ kG_actives 0 - (high_0 - low_0) + (fresh_0 - begun_0) ≤ 16384) : wp_ (fG_replaceActive σ low_0 high_0 begun_0 fresh_0) (fun zz_ => II zz_ ∧ FC [kG_above, kG_active, kG_actives] [] σ zz_ ∧ (zz_ kG_actives 0 = σ kG_actives 0 + (fresh_0 - begun_0 - (high_0 - low_0)))) := by
  unfold fG_replaceActive
  have c1 := ii_kG_actives hσ 0
  have c2 := w32_rng high_0
  have c3 := w32_rng ((low_0 + fresh_0) - begun_0)
  have c4 := w32_rng ((σ kG_actives 0) - high_0)
  refine wp_cpI hσ (by decide +kernel) (by (try dsimp only) <;> first | assumption | omega | ((try simp (disch := omega) only [w32_of, w64_of, w8_of]) <;> first | assumption | omega | (split <;> omega) | (refine And.intro ?_ ?_ <;> split <;> omega)) | omega) (fun σ_1 hσ_1 oσ_1 eσ_1 => ?_)
  have flσ_1 := FC_fix oσ_1 (by decide)
  have frσ_1 : FC [kG_above, kG_active, kG_actives] [] σ σ_1 := FC_le flσ_1 (by first | decide | (rcases hE with rfl | rfl | rfl <;> decide)) (by simp)
  have c5 := ii_kG_actives hσ_1 0
  have c6 := FC_at flσ_1 (c := kG_actives) (by first | decide | (rcases hE with rfl | rfl | rfl <;> decide)) 0
  refine wp_wfI hσ_1 b_kG_actives (by (try dsimp only) <;> first | assumption | omega | ((try simp (disch := omega) only [w32_of, w64_of, w8_of]) <;> first | assumption | omega | (split <;> omega) | (refine And.intro ?_ ?_ <;> split <;> omega)) | omega) (fun σ_3 hσ_3 eσ_3 => ?_)
  try simp (disch := omega) only [w32_of, w64_of, w8_of] at eσ_3
  have flσ_3 := FC_sg eσ_3 (by first | decide | (rcases hE with rfl | rfl | rfl <;> decide))
  have frσ_3 : FC [kG_above, kG_active, kG_actives] [] σ σ_3 := FC_tr frσ_1 flσ_3 (by first | decide | (rcases hE with rfl | rfl | rfl <;> decide)) (by first | decide | (rcases hE with rfl | rfl | rfl <;> decide)) (by simp) (by simp)
  have hv3 := sg_val eσ_3
  have hv1 := FC_at flσ_1 (c := kG_actives) (by decide) 0
  refine wp_bd (P := fun rr_ => II rr_.2 ∧ FC [kG_above, kG_active, kG_actives] [] σ rr_.2 ∧ (rr_.2 kG_actives 0 = σ_3 kG_actives 0)) ?_ ?_
  · have c7 := ii_kG_actives hσ_3 0
    have c8 := sg_val eσ_3
    refine wp_whl (fun ss_ => II ss_.2 ∧ FC [kG_above, kG_active, kG_actives] [] σ ss_.2 ∧ (begun_0 ≤ ss_.1 ∧ ss_.1 ≤ fresh_0) ∧ (ss_.2 kG_actives 0 = σ_3 kG_actives 0)) (fun ss_ => (fresh_0 - ss_.1).toNat) ⟨hσ_3, frσ_3, (by (try dsimp only) <;> first | assumption | omega | ((try simp (disch := omega) only [w32_of, w64_of, w8_of]) <;> first | assumption | omega | (split <;> omega) | (refine And.intro ?_ ?_ <;> split <;> omega)) | omega), (by (try dsimp only) <;> first | assumption | omega | ((try simp (disch := omega) only [w32_of, w64_of, w8_of]) <;> first | assumption | omega | (split <;> omega) | (refine And.intro ?_ ?_ <;> split <;> omega)) | omega)⟩ ?_
    rintro ⟨piece_4, σ_5⟩ y11
    try dsimp only at y11 ⊢
    obtain ⟨hσ_5, frσ_5, g9, g10⟩ := y11
    have c13 := w32_rng piece_4
    have c14 := w32_rng fresh_0
    refine wp_if (fun c12 => ?_) (fun c12 => ?_)
    · try simp (disch := omega) only [w32_of, w64_of, w8_of, decide_eq_true_eq, decide_eq_false_iff_not, Bool.not_eq_true] at c12
      refine wp_bd (P := fun rr_ => II rr_.2 ∧ FC [kG_above, kG_active, kG_actives] [] σ rr_.2 ∧ (low_0 ≤ rr_.1 ∧ rr_.1 ≤ low_0 + piece_4 - begun_0) ∧ (rr_.2 kG_actives 0 = σ_5 kG_actives 0)) ?_ ?_
      · have c15 := ii_kG_actives hσ_5 0
        refine wp_whl (fun ss_ => II ss_.2 ∧ FC [kG_above, kG_active, kG_actives] [] σ ss_.2 ∧ (low_0 ≤ ss_.1 ∧ ss_.1 ≤ low_0 + piece_4 - begun_0) ∧ (ss_.2 kG_actives 0 = σ_5 kG_actives 0)) (fun ss_ => (ss_.1 - low_0).toNat) ⟨hσ_5, frσ_5, (by (try dsimp only) <;> first | assumption | omega | ((try simp (disch := omega) only [w32_of, w64_of, w8_of]) <;> first | assumption | omega | (split <;> omega) | (refine And.intro ?_ ?_ <;> split <;> omega)) | omega), (by (try dsimp only) <;> first | assumption | omega | ((try simp (disch := omega) only [w32_of, w64_of, w8_of]) <;> first | assumption | omega | (split <;> omega) | (refine And.intro ?_ ?_ <;> split <;> omega)) | omega)⟩ ?_
        rintro ⟨at_14, σ_15⟩ y18
        try dsimp only at y18 ⊢
        obtain ⟨hσ_15, frσ_15, g16, g17⟩ := y18
        have c20 := w32_rng low_0
        have c21 := w32_rng at_14
        refine wp_if (fun c19 => ?_) (fun c19 => ?_)
        · try simp (disch := omega) only [w32_of, w64_of, w8_of, decide_eq_true_eq, decide_eq_false_iff_not, Bool.not_eq_true] at c19
          refine wp_rdI (by (try dsimp only) <;> first | assumption | omega | ((try simp (disch := omega) only [w32_of, w64_of, w8_of]) <;> first | assumption | omega | (split <;> omega) | (refine And.intro ?_ ?_ <;> split <;> omega)) | omega) (by (try dsimp only) <;> first | assumption | omega | ((try simp (disch := omega) only [w32_of, w64_of, w8_of]) <;> first | assumption | omega | (split <;> omega) | (refine And.intro ?_ ?_ <;> split <;> omega)) | omega) (fun x_40 e_x_40 => ?_)
          have b_x_40 : 0 ≤ x_40 ∧ x_40 ≤ 8191 := by rw [e_x_40]; exact ii_kN_pieceFrom hσ_15 _
          rw [FC_at frσ_15 (c := kN_pieceFrom) (by first | decide | (rcases hE with rfl | rfl | rfl <;> decide))] at e_x_40
          try simp (disch := omega) only [w32_of, w64_of, w8_of] at e_x_40
          have c22 := ii_kN_pieceFrom hσ_15 piece_4
          have c23 := FC_at frσ_15 (c := kN_pieceFrom) (by first | decide | (rcases hE with rfl | rfl | rfl <;> decide)) piece_4
          have c24 := ii_kN_pieceFrom hσ piece_4
          have c25 := w32_rng (at_14 - 1)
          refine wp_rdI (by (try dsimp only) <;> first | assumption | omega | ((try simp (disch := omega) only [w32_of, w64_of, w8_of]) <;> first | assumption | omega | (split <;> omega) | (refine And.intro ?_ ?_ <;> split <;> omega)) | omega) (by (try dsimp only) <;> first | assumption | omega | ((try simp (disch := omega) only [w32_of, w64_of, w8_of]) <;> first | assumption | omega | (split <;> omega) | (refine And.intro ?_ ?_ <;> split <;> omega)) | omega) (fun x_42 e_x_42 => ?_)
          have b_x_42 : 0 ≤ x_42 ∧ x_42 ≤ 16383 := by rw [e_x_42]; exact ii_kG_active hσ_15 _
          try simp (disch := omega) only [w32_of, w64_of, w8_of] at e_x_42
          have c26 := ii_kG_active hσ_15 (at_14 - 1)
          have c27 := w32_rng x_42
          refine wp_rdI (by (try dsimp only) <;> first | assumption | omega | ((try simp (disch := omega) only [w32_of, w64_of, w8_of]) <;> first | assumption | omega | (split <;> omega) | (refine And.intro ?_ ?_ <;> split <;> omega)) | omega) (by (try dsimp only) <;> first | assumption | omega | ((try simp (disch := omega) only [w32_of, w64_of, w8_of]) <;> first | assumption | omega | (split <;> omega) | (refine And.intro ?_ ?_ <;> split <;> omega)) | omega) (fun x_44 e_x_44 => ?_)
          have b_x_44 : 0 ≤ x_44 ∧ x_44 ≤ 8191 := by rw [e_x_44]; exact ii_kN_pieceTo hσ_15 _
          rw [FC_at frσ_15 (c := kN_pieceTo) (by first | decide | (rcases hE with rfl | rfl | rfl <;> decide))] at e_x_44
          try simp (disch := omega) only [w32_of, w64_of, w8_of] at e_x_44
          have c28 := ii_kN_pieceTo hσ_15 x_42
          have c29 := FC_at frσ_15 (c := kN_pieceTo) (by first | decide | (rcases hE with rfl | rfl | rfl <;> decide)) x_42
          have c30 := ii_kN_pieceTo hσ x_42
          refine wp_rdI (by (try dsimp only) <;> first | assumption | omega | ((try simp (disch := omega) only [w32_of, w64_of, w8_of]) <;> first | assumption | omega | (split <;> omega) | (refine And.intro ?_ ?_ <;> split <;> omega)) | omega) (by (try dsimp only) <;> first | assumption | omega | ((try simp (disch := omega) only [w32_of, w64_of, w8_of]) <;> first | assumption | omega | (split <;> omega) | (refine And.intro ?_ ?_ <;> split <;> omega)) | omega) (fun x_46 e_x_46 => ?_)
          have b_x_46 : 0 ≤ x_46 ∧ x_46 ≤ 8191 := by rw [e_x_46]; exact ii_kN_pieceTo hσ_15 _
          rw [FC_at frσ_15 (c := kN_pieceTo) (by first | decide | (rcases hE with rfl | rfl | rfl <;> decide))] at e_x_46
          try simp (disch := omega) only [w32_of, w64_of, w8_of] at e_x_46
          have c31 := ii_kN_pieceTo hσ_15 piece_4
          have c32 := FC_at frσ_15 (c := kN_pieceTo) (by first | decide | (rcases hE with rfl | rfl | rfl <;> decide)) piece_4
          have c33 := ii_kN_pieceTo hσ piece_4
          refine wp_bd (s_G_turnAt (σ := σ_15) (a_0 := x_40) (b_0 := x_44) (c_0 := x_46) hσ_15 (by (try dsimp only) <;> first | assumption | omega | ((try simp (disch := omega) only [w32_of, w64_of, w8_of]) <;> first | assumption | omega | (split <;> omega) | (refine And.intro ?_ ?_ <;> split <;> omega)) | omega) (by (try dsimp only) <;> first | assumption | omega | ((try simp (disch := omega) only [w32_of, w64_of, w8_of]) <;> first | assumption | omega | (split <;> omega) | (refine And.intro ?_ ?_ <;> split <;> omega)) | omega) (by (try dsimp only) <;> first | assumption | omega | ((try simp (disch := omega) only [w32_of, w64_of, w8_of]) <;> first | assumption | omega | (split <;> omega) | (refine And.intro ?_ ?_ <;> split <;> omega)) | omega)) ?_
          rintro x_49 - g34
          try simp (disch := omega) only [w32_of, w64_of, w8_of] at g34
          have c36 := w32_rng x_49
          refine wp_if (fun c35 => ?_) (fun c35 => ?_)
          · try simp (disch := omega) only [w32_of, w64_of, w8_of, decide_eq_true_eq, decide_eq_false_iff_not, Bool.not_eq_true] at c35
            refine wp_rdI (by (try dsimp only) <;> first | assumption | omega | ((try simp (disch := omega) only [w32_of, w64_of, w8_of]) <;> first | assumption | omega | (split <;> omega) | (refine And.intro ?_ ?_ <;> split <;> omega)) | omega) (by (try dsimp only) <;> first | assumption | omega | ((try simp (disch := omega) only [w32_of, w64_of, w8_of]) <;> first | assumption | omega | (split <;> omega) | (refine And.intro ?_ ?_ <;> split <;> omega)) | omega) (fun x_51 e_x_51 => ?_)
            have b_x_51 : 0 ≤ x_51 ∧ x_51 ≤ 16383 := by rw [e_x_51]; exact ii_kG_active hσ_15 _
            try simp (disch := omega) only [w32_of, w64_of, w8_of] at e_x_51
            refine wp_waI hσ_15 b_kG_active (by (try dsimp only) <;> first | assumption | omega | ((try simp (disch := omega) only [w32_of, w64_of, w8_of]) <;> first | assumption | omega | (split <;> omega) | (refine And.intro ?_ ?_ <;> split <;> omega)) | omega) (by (try dsimp only) <;> first | assumption | omega | ((try simp (disch := omega) only [w32_of, w64_of, w8_of]) <;> first | assumption | omega | (split <;> omega) | (refine And.intro ?_ ?_ <;> split <;> omega)) | omega) (by (try dsimp only) <;> first | assumption | omega | ((try simp (disch := omega) only [w32_of, w64_of, w8_of]) <;> first | assumption | omega | (split <;> omega) | (refine And.intro ?_ ?_ <;> split <;> omega)) | omega) (fun σ_53 hσ_53 eσ_53 => ?_)
            try simp (disch := omega) only [w32_of, w64_of, w8_of] at eσ_53
            have flσ_53 := FC_sg eσ_53 (by first | decide | (rcases hE with rfl | rfl | rfl <;> decide))
            have frσ_53 : FC [kG_above, kG_active, kG_actives] [] σ σ_53 := FC_tr frσ_15 flσ_53 (by first | decide | (rcases hE with rfl | rfl | rfl <;> decide)) (by first | decide | (rcases hE with rfl | rfl | rfl <;> decide)) (by simp) (by simp)
            have c37 := ii_kG_actives hσ_53 0
            have c38 := FC_at flσ_53 (c := kG_actives) (by first | decide | (rcases hE with rfl | rfl | rfl <;> decide)) 0
            have c39 := ii_kG_actives hσ_15 0
            exact wp_some (x_inl ⟨⟨hσ_53, frσ_53, (by (try dsimp only) <;> first | assumption | omega | ((try simp (disch := omega) only [w32_of, w64_of, w8_of]) <;> first | assumption | omega | (split <;> omega) | (refine And.intro ?_ ?_ <;> split <;> omega)) | omega), (by (try dsimp only) <;> first | assumption | omega | ((try simp (disch := omega) only [w32_of, w64_of, w8_of]) <;> first | assumption | omega | (split <;> omega) | (refine And.intro ?_ ?_ <;> split <;> omega)) | omega)⟩, (by (try dsimp only) <;> first | assumption | omega | ((try simp (disch := omega) only [w32_of, w64_of, w8_of]) <;> first | assumption | omega | (split <;> omega) | (refine And.intro ?_ ?_ <;> split <;> omega)) | omega)⟩)
          · try simp (disch := omega) only [w32_of, w64_of, w8_of, decide_eq_true_eq, decide_eq_false_iff_not, Bool.not_eq_true] at c35
            have c40 := ii_kG_actives hσ_15 0
            exact wp_some (x_inr ⟨hσ_15, frσ_15, (by (try dsimp only) <;> first | assumption | omega | ((try simp (disch := omega) only [w32_of, w64_of, w8_of]) <;> first | assumption | omega | (split <;> omega) | (refine And.intro ?_ ?_ <;> split <;> omega)) | omega), (by (try dsimp only) <;> first | assumption | omega | ((try simp (disch := omega) only [w32_of, w64_of, w8_of]) <;> first | assumption | omega | (split <;> omega) | (refine And.intro ?_ ?_ <;> split <;> omega)) | omega)⟩)
        · try simp (disch := omega) only [w32_of, w64_of, w8_of, decide_eq_true_eq, decide_eq_false_iff_not, Bool.not_eq_true] at c19
          have c41 := ii_kG_actives hσ_15 0
          exact wp_some (x_inr ⟨hσ_15, frσ_15, (by (try dsimp only) <;> first | assumption | omega | ((try simp (disch := omega) only [w32_of, w64_of, w8_of]) <;> first | assumption | omega | (split <;> omega) | (refine And.intro ?_ ?_ <;> split <;> omega)) | omega), (by (try dsimp only) <;> first | assumption | omega | ((try simp (disch := omega) only [w32_of, w64_of, w8_of]) <;> first | assumption | omega | (split <;> omega) | (refine And.intro ?_ ?_ <;> split <;> omega)) | omega)⟩)
      rintro ⟨at_58, σ_59⟩ _ y44
      try dsimp only at y44 ⊢
      obtain ⟨hσ_59, frσ_59, g42, g43⟩ := y44
      have c45 := w32_rng at_58
      refine wp_waI hσ_59 b_kG_active (by (try dsimp only) <;> first | assumption | omega | ((try simp (disch := omega) only [w32_of, w64_of, w8_of]) <;> first | assumption | omega | (split <;> omega) | (refine And.intro ?_ ?_ <;> split <;> omega)) | omega) (by (try dsimp only) <;> first | assumption | omega | ((try simp (disch := omega) only [w32_of, w64_of, w8_of]) <;> first | assumption | omega | (split <;> omega) | (refine And.intro ?_ ?_ <;> split <;> omega)) | omega) (by (try dsimp only) <;> first | assumption | omega | ((try simp (disch := omega) only [w32_of, w64_of, w8_of]) <;> first | assumption | omega | (split <;> omega) | (refine And.intro ?_ ?_ <;> split <;> omega)) | omega) (fun σ_60 hσ_60 eσ_60 => ?_)
      try simp (disch := omega) only [w32_of, w64_of, w8_of] at eσ_60
      have flσ_60 := FC_sg eσ_60 (by first | decide | (rcases hE with rfl | rfl | rfl <;> decide))
      have frσ_60 : FC [kG_above, kG_active, kG_actives] [] σ σ_60 := FC_tr frσ_59 flσ_60 (by first | decide | (rcases hE with rfl | rfl | rfl <;> decide)) (by first | decide | (rcases hE with rfl | rfl | rfl <;> decide)) (by simp) (by simp)
      have c46 := ii_kG_actives hσ_60 0
      have c47 := FC_at flσ_60 (c := kG_actives) (by first | decide | (rcases hE with rfl | rfl | rfl <;> decide)) 0
      have c48 := ii_kG_actives hσ_59 0
      exact wp_some (x_inl ⟨⟨hσ_60, frσ_60, (by (try dsimp only) <;> first | assumption | omega | ((try simp (disch := omega) only [w32_of, w64_of, w8_of]) <;> first | assumption | omega | (split <;> omega) | (refine And.intro ?_ ?_ <;> split <;> omega)) | omega), (by (try dsimp only) <;> first | assumption | omega | ((try simp (disch := omega) only [w32_of, w64_of, w8_of]) <;> first | assumption | omega | (split <;> omega) | (refine And.intro ?_ ?_ <;> split <;> omega)) | omega)⟩, (by (try dsimp only) <;> first | assumption | omega | ((try simp (disch := omega) only [w32_of, w64_of, w8_of]) <;> first | assumption | omega | (split <;> omega) | (refine And.intro ?_ ?_ <;> split <;> omega)) | omega)⟩)
    · try simp (disch := omega) only [w32_of, w64_of, w8_of, decide_eq_true_eq, decide_eq_false_iff_not, Bool.not_eq_true] at c12
      have c49 := ii_kG_actives hσ_5 0
      exact wp_some (x_inr ⟨hσ_5, frσ_5, (by (try dsimp only) <;> first | assumption | omega | ((try simp (disch := omega) only [w32_of, w64_of, w8_of]) <;> first | assumption | omega | (split <;> omega) | (refine And.intro ?_ ?_ <;> split <;> omega)) | omega)⟩)
  rintro ⟨piece_65, σ_66⟩ _ y51
  try dsimp only at y51 ⊢
  obtain ⟨hσ_66, frσ_66, g50⟩ := y51
  refine wp_bd (P := fun rr_ => (0 ≤ rr_ ∧ rr_ ≤ 3)) ?_ ?_
  · have c53 := w32_rng low_0
    refine wp_if (fun c52 => ?_) (fun c52 => ?_)
    · try simp (disch := omega) only [w32_of, w64_of, w8_of, decide_eq_true_eq, decide_eq_false_iff_not, Bool.not_eq_true] at c52
      have c54 := w32_rng (low_0 - 1)
      refine wp_rdI (by (try dsimp only) <;> first | assumption | omega | ((try simp (disch := omega) only [w32_of, w64_of, w8_of]) <;> first | assumption | omega | (split <;> omega) | (refine And.intro ?_ ?_ <;> split <;> omega)) | omega) (by (try dsimp only) <;> first | assumption | omega | ((try simp (disch := omega) only [w32_of, w64_of, w8_of]) <;> first | assumption | omega | (split <;> omega) | (refine And.intro ?_ ?_ <;> split <;> omega)) | omega) (fun x_72 e_x_72 => ?_)
      have b_x_72 : 0 ≤ x_72 ∧ x_72 ≤ 16383 := by rw [e_x_72]; exact ii_kG_active hσ_66 _
      try simp (disch := omega) only [w32_of, w64_of, w8_of] at e_x_72
      have c55 := ii_kG_active hσ_66 (low_0 - 1)
      have c56 := w32_rng x_72
      refine wp_rdI (by (try dsimp only) <;> first | assumption | omega | ((try simp (disch := omega) only [w32_of, w64_of, w8_of]) <;> first | assumption | omega | (split <;> omega) | (refine And.intro ?_ ?_ <;> split <;> omega)) | omega) (by (try dsimp only) <;> first | assumption | omega | ((try simp (disch := omega) only [w32_of, w64_of, w8_of]) <;> first | assumption | omega | (split <;> omega) | (refine And.intro ?_ ?_ <;> split <;> omega)) | omega) (fun x_74 e_x_74 => ?_)
      have b_x_74 : 0 ≤ x_74 ∧ x_74 ≤ 3 := by rw [e_x_74]; exact ii_kG_above hσ_66 _
      try simp (disch := omega) only [w32_of, w64_of, w8_of] at e_x_74
      have c57 := ii_kG_above hσ_66 x_72
      exact wp_some (by (try dsimp only) <;> first | assumption | omega | ((try simp (disch := omega) only [w32_of, w64_of, w8_of]) <;> first | assumption | omega | (split <;> omega) | (refine And.intro ?_ ?_ <;> split <;> omega)) | omega)
    · try simp (disch := omega) only [w32_of, w64_of, w8_of, decide_eq_true_eq, decide_eq_false_iff_not, Bool.not_eq_true] at c52
      exact wp_some (by (try dsimp only) <;> first | assumption | omega | ((try simp (disch := omega) only [w32_of, w64_of, w8_of]) <;> first | assumption | omega | (split <;> omega) | (refine And.intro ?_ ?_ <;> split <;> omega)) | omega)
  rintro x_78 _ g58
  refine wp_bd (P := fun rr_ => II rr_.2.2 ∧ FC [kG_above, kG_active, kG_actives] [] σ rr_.2.2 ∧ (rr_.2.2 kG_actives 0 = σ_66 kG_actives 0)) ?_ ?_
  · have c59 := ii_kG_actives hσ_66 0
    refine wp_whl (fun ss_ => II ss_.2.2 ∧ FC [kG_above, kG_active, kG_actives] [] σ ss_.2.2 ∧ (low_0 ≤ ss_.2.1 ∧ ss_.2.1 ≤ low_0 + fresh_0 - begun_0) ∧ (0 ≤ ss_.1 ∧ ss_.1 ≤ 3) ∧ (ss_.2.2 kG_actives 0 = σ_66 kG_actives 0)) (fun ss_ => (low_0 + fresh_0 - begun_0 - ss_.2.1).toNat) ⟨hσ_66, frσ_66, (by (try dsimp only) <;> first | assumption | omega | ((try simp (disch := omega) only [w32_of, w64_of, w8_of]) <;> first | assumption | omega | (split <;> omega) | (refine And.intro ?_ ?_ <;> split <;> omega)) | omega), (by (try dsimp only) <;> first | assumption | omega | ((try simp (disch := omega) only [w32_of, w64_of, w8_of]) <;> first | assumption | omega | (split <;> omega) | (refine And.intro ?_ ?_ <;> split <;> omega)) | omega), (by (try dsimp only) <;> first | assumption | omega | ((try simp (disch := omega) only [w32_of, w64_of, w8_of]) <;> first | assumption | omega | (split <;> omega) | (refine And.intro ?_ ?_ <;> split <;> omega)) | omega)⟩ ?_
    rintro ⟨inside_79, at_80, σ_81⟩ y63
    try dsimp only at y63 ⊢
    obtain ⟨hσ_81, frσ_81, g60, g61, g62⟩ := y63
    have c65 := w32_rng at_80
    refine wp_if (fun c64 => ?_) (fun c64 => ?_)
    · try simp (disch := omega) only [w32_of, w64_of, w8_of, decide_eq_true_eq, decide_eq_false_iff_not, Bool.not_eq_true] at c64
      refine wp_rdI (by (try dsimp only) <;> first | assumption | omega | ((try simp (disch := omega) only [w32_of, w64_of, w8_of]) <;> first | assumption | omega | (split <;> omega) | (refine And.intro ?_ ?_ <;> split <;> omega)) | omega) (by (try dsimp only) <;> first | assumption | omega | ((try simp (disch := omega) only [w32_of, w64_of, w8_of]) <;> first | assumption | omega | (split <;> omega) | (refine And.intro ?_ ?_ <;> split <;> omega)) | omega) (fun x_90 e_x_90 => ?_)
      have b_x_90 : 0 ≤ x_90 ∧ x_90 ≤ 16383 := by rw [e_x_90]; exact ii_kG_active hσ_81 _
      try simp (disch := omega) only [w32_of, w64_of, w8_of] at e_x_90
      have c66 := ii_kG_active hσ_81 at_80
      have c67 := w32_rng x_90
      refine wp_rdI (by (try dsimp only) <;> first | assumption | omega | ((try simp (disch := omega) only [w32_of, w64_of, w8_of]) <;> first | assumption | omega | (split <;> omega) | (refine And.intro ?_ ?_ <;> split <;> omega)) | omega) (by (try dsimp only) <;> first | assumption | omega | ((try simp (disch := omega) only [w32_of, w64_of, w8_of]) <;> first | assumption | omega | (split <;> omega) | (refine And.intro ?_ ?_ <;> split <;> omega)) | omega) (fun x_92 e_x_92 => ?_)
      have b_x_92 : 0 ≤ x_92 ∧ x_92 ≤ 3 := by rw [e_x_92]; exact ii_kN_pieceMask hσ_81 _
      rw [FC_at frσ_81 (c := kN_pieceMask) (by first | decide | (rcases hE with rfl | rfl | rfl <;> decide))] at e_x_92
      try simp (disch := omega) only [w32_of, w64_of, w8_of] at e_x_92
      have c68 := ii_kN_pieceMask hσ_81 x_90
      have c69 := FC_at frσ_81 (c := kN_pieceMask) (by first | decide | (rcases hE with rfl | rfl | rfl <;> decide)) x_90
      have c70 := ii_kN_pieceMask hσ x_90
      have hix := (ixo_b2 (x := inside_79) (b := x_92) (by omega) (by omega) (by omega) (by omega)).1
      refine wp_rdI (by (try dsimp only) <;> first | assumption | omega | ((try simp (disch := omega) only [w32_of, w64_of, w8_of]) <;> first | assumption | omega | (split <;> omega) | (refine And.intro ?_ ?_ <;> split <;> omega)) | omega) (by (try dsimp only) <;> first | assumption | omega | ((try simp (disch := omega) only [w32_of, w64_of, w8_of]) <;> first | assumption | omega | (split <;> omega) | (refine And.intro ?_ ?_ <;> split <;> omega)) | omega) (fun x_94 e_x_94 => ?_)
      have b_x_94 : 0 ≤ x_94 ∧ x_94 ≤ 16383 := by rw [e_x_94]; exact ii_kG_active hσ_81 _
      try simp (disch := omega) only [w32_of, w64_of, w8_of] at e_x_94
      have c71 := q_ixo_rng inside_79 x_92
      have c72 := w32_rng x_94
      refine wp_waI hσ_81 b_kG_above (by (try dsimp only) <;> first | assumption | omega | ((try simp (disch := omega) only [w32_of, w64_of, w8_of]) <;> first | assumption | omega | (split <;> omega) | (refine And.intro ?_ ?_ <;> split <;> omega)) | omega) (by (try dsimp only) <;> first | assumption | omega | ((try simp (disch := omega) only [w32_of, w64_of, w8_of]) <;> first | assumption | omega | (split <;> omega) | (refine And.intro ?_ ?_ <;> split <;> omega)) | omega) (by (try dsimp only) <;> first | assumption | omega | ((try simp (disch := omega) only [w32_of, w64_of, w8_of]) <;> first | assumption | omega | (split <;> omega) | (refine And.intro ?_ ?_ <;> split <;> omega)) | omega) (fun σ_96 hσ_96 eσ_96 => ?_)
      try simp (disch := omega) only [w32_of, w64_of, w8_of] at eσ_96
      have flσ_96 := FC_sg eσ_96 (by first | decide | (rcases hE with rfl | rfl | rfl <;> decide))
      have frσ_96 : FC [kG_above, kG_active, kG_actives] [] σ σ_96 := FC_tr frσ_81 flσ_96 (by first | decide | (rcases hE with rfl | rfl | rfl <;> decide)) (by first | decide | (rcases hE with rfl | rfl | rfl <;> decide)) (by simp) (by simp)
      have c73 := ii_kG_actives hσ_96 0
      have c74 := FC_at flσ_96 (c := kG_actives) (by first | decide | (rcases hE with rfl | rfl | rfl <;> decide)) 0
      have c75 := ii_kG_actives hσ_81 0
      exact wp_some (x_inl ⟨⟨hσ_96, frσ_96, (by (try dsimp only) <;> first | assumption | omega | ((try simp (disch := omega) only [w32_of, w64_of, w8_of]) <;> first | assumption | omega | (split <;> omega) | (refine And.intro ?_ ?_ <;> split <;> omega)) | omega), (by (try dsimp only) <;> first | assumption | omega | ((try simp (disch := omega) only [w32_of, w64_of, w8_of]) <;> first | assumption | omega | (split <;> omega) | (refine And.intro ?_ ?_ <;> split <;> omega)) | omega), (by (try dsimp only) <;> first | assumption | omega | ((try simp (disch := omega) only [w32_of, w64_of, w8_of]) <;> first | assumption | omega | (split <;> omega) | (refine And.intro ?_ ?_ <;> split <;> omega)) | omega)⟩, (by (try dsimp only) <;> first | assumption | omega | ((try simp (disch := omega) only [w32_of, w64_of, w8_of]) <;> first | assumption | omega | (split <;> omega) | (refine And.intro ?_ ?_ <;> split <;> omega)) | omega)⟩)
    · try simp (disch := omega) only [w32_of, w64_of, w8_of, decide_eq_true_eq, decide_eq_false_iff_not, Bool.not_eq_true] at c64
      have c76 := ii_kG_actives hσ_81 0
      exact wp_some (x_inr ⟨hσ_81, frσ_81, (by (try dsimp only) <;> first | assumption | omega | ((try simp (disch := omega) only [w32_of, w64_of, w8_of]) <;> first | assumption | omega | (split <;> omega) | (refine And.intro ?_ ?_ <;> split <;> omega)) | omega)⟩)
  rintro ⟨inside_100, at_101, σ_102⟩ _ y78
  try dsimp only at y78 ⊢
  obtain ⟨hσ_102, frσ_102, g77⟩ := y78
  have c79 := ii_kG_actives hσ_102 0
  exact wp_some ⟨hσ_102, frσ_102, (by (try dsimp only) <;> first | assumption | omega | ((try simp (disch := omega) only [w32_of, w64_of, w8_of]) <;> first | assumption | omega | (split <;> omega) | (refine And.intro ?_ ?_ <;> split <;> omega)) | omega)⟩
theorem s_G_sweep {σ : SG} (hσ : II σ) : wp_ (fG_sweep σ) (fun zz_ => II zz_ ∧ FC [kG_above, kG_active, kG_actives] [] σ zz_) := by
  unfold fG_sweep
  refine wp_wfI hσ b_kG_actives (by (try dsimp only) <;> first | assumption | omega | ((try simp (disch := omega) only [w32_of, w64_of, w8_of]) <;> first | assumption | omega | (split <;> omega) | (refine And.intro ?_ ?_ <;> split <;> omega)) | omega) (fun σ_1 hσ_1 eσ_1 => ?_)
  try simp (disch := omega) only [w32_of, w64_of, w8_of] at eσ_1
  have flσ_1 := FC_sg eσ_1 (by first | decide | (rcases hE with rfl | rfl | rfl <;> decide))
  have frσ_1 : FC [kG_above, kG_active, kG_actives] [] σ σ_1 := FC_le flσ_1 (by first | decide | (rcases hE with rfl | rfl | rfl <;> decide)) (by simp)
  refine wp_bd (P := fun rr_ => II rr_.2.2 ∧ FC [kG_above, kG_active, kG_actives] [] σ rr_.2.2 ∧ (True)) ?_ ?_
  · have c1 := ii_kG_actives hσ_1 0
    have c2 := sg_val eσ_1
    refine wp_whl (fun ss_ => II ss_.2.2 ∧ FC [kG_above, kG_active, kG_actives] [] σ ss_.2.2 ∧ (0 ≤ ss_.2.1 ∧ ss_.2.1 ≤ 8192) ∧ (0 ≤ ss_.1 ∧ ss_.1 ≤ 16384) ∧ (ss_.2.2 kG_actives 0 ≤ ss_.1)) (fun ss_ => (8193 - ss_.2.1).toNat) ⟨hσ_1, frσ_1, (by (try dsimp only) <;> first | assumption | omega | ((try simp (disch := omega) only [w32_of, w64_of, w8_of]) <;> first | assumption | omega | (split <;> omega) | (refine And.intro ?_ ?_ <;> split <;> omega)) | omega), (by (try dsimp only) <;> first | assumption | omega | ((try simp (disch := omega) only [w32_of, w64_of, w8_of]) <;> first | assumption | omega | (split <;> omega) | (refine And.intro ?_ ?_ <;> split <;> omega)) | omega), (by (try dsimp only) <;> first | assumption | omega | ((try simp (disch := omega) only [w32_of, w64_of, w8_of]) <;> first | assumption | omega | (split <;> omega) | (refine And.intro ?_ ?_ <;> split <;> omega)) | omega)⟩ ?_
    rintro ⟨fresh_2, h_3, σ_4⟩ y6
    try dsimp only at y6 ⊢
    obtain ⟨hσ_4, frσ_4, g3, g4, g5⟩ := y6
    have c8 := w32_rng h_3
    have c9 := ii_kN_hot hσ_4 0
    have c10 := FC_at frσ_4 (c := kN_hot) (by first | decide | (rcases hE with rfl | rfl | rfl <;> decide)) 0
    have c11 := ii_kN_hot hσ 0
    have c12 := w32_rng (σ_4 kN_hot 0)
    refine wp_if (fun c7 => ?_) (fun c7 => ?_)
    · try simp (disch := omega) only [w32_of, w64_of, w8_of, decide_eq_true_eq, decide_eq_false_iff_not, Bool.not_eq_true] at c7
      refine wp_bd (s_G_firstNotBelow (σ := σ_4) (h_0 := h_3) hσ_4 (by (try dsimp only) <;> first | assumption | omega | ((try simp (disch := omega) only [w32_of, w64_of, w8_of]) <;> first | assumption | omega | (split <;> omega) | (refine And.intro ?_ ?_ <;> split <;> omega)) | omega)) ?_
      rintro x_14 - g13
      have c14 := ii_kG_actives hσ_4 0
      try simp (disch := omega) only [w32_of, w64_of, w8_of] at g13
      refine wp_bd (P := fun rr_ => (x_14 ≤ rr_ ∧ rr_ ≤ σ_4 kG_actives 0)) ?_ ?_
      · refine wp_whl (fun ss_ => (x_14 ≤ ss_ ∧ ss_ ≤ σ_4 kG_actives 0)) (fun ss_ => (16385 - ss_).toNat) (by (try dsimp only) <;> first | assumption | omega | ((try simp (disch := omega) only [w32_of, w64_of, w8_of]) <;> first | assumption | omega | (split <;> omega) | (refine And.intro ?_ ?_ <;> split <;> omega)) | omega) ?_
        rintro high_15 g15
        have c17 := w32_rng high_15
        have c18 := w32_rng (σ_4 kG_actives 0)
        refine wp_if (fun c16 => ?_) (fun c16 => ?_)
        · try simp (disch := omega) only [w32_of, w64_of, w8_of, decide_eq_true_eq, decide_eq_false_iff_not, Bool.not_eq_true] at c16
          refine wp_rdI (by (try dsimp only) <;> first | assumption | omega | ((try simp (disch := omega) only [w32_of, w64_of, w8_of]) <;> first | assumption | omega | (split <;> omega) | (refine And.intro ?_ ?_ <;> split <;> omega)) | omega) (by (try dsimp only) <;> first | assumption | omega | ((try simp (disch := omega) only [w32_of, w64_of, w8_of]) <;> first | assumption | omega | (split <;> omega) | (refine And.intro ?_ ?_ <;> split <;> omega)) | omega) (fun x_34 e_x_34 => ?_)
          have b_x_34 : 0 ≤ x_34 ∧ x_34 ≤ 16383 := by rw [e_x_34]; exact ii_kG_active hσ_4 _
          try simp (disch := omega) only [w32_of, w64_of, w8_of] at e_x_34
          have c19 := ii_kG_active hσ_4 high_15
          have c20 := w32_rng x_34
          refine wp_rdI (by (try dsimp only) <;> first | assumption | omega | ((try simp (disch := omega) only [w32_of, w64_of, w8_of]) <;> first | assumption | omega | (split <;> omega) | (refine And.intro ?_ ?_ <;> split <;> omega)) | omega) (by (try dsimp only) <;> first | assumption | omega | ((try simp (disch := omega) only [w32_of, w64_of, w8_of]) <;> first | assumption | omega | (split <;> omega) | (refine And.intro ?_ ?_ <;> split <;> omega)) | omega) (fun x_36 e_x_36 => ?_)
          have b_x_36 : 0 ≤ x_36 ∧ x_36 ≤ 8191 := by rw [e_x_36]; exact ii_kN_pieceTo hσ_4 _
          rw [FC_at frσ_4 (c := kN_pieceTo) (by first | decide | (rcases hE with rfl | rfl | rfl <;> decide))] at e_x_36
          try simp (disch := omega) only [w32_of, w64_of, w8_of] at e_x_36
          have c21 := ii_kN_pieceTo hσ_4 x_34
          have c22 := FC_at frσ_4 (c := kN_pieceTo) (by first | decide | (rcases hE with rfl | rfl | rfl <;> decide)) x_34
          have c23 := ii_kN_pieceTo hσ x_34
          have c25 := w32_rng x_36
          refine wp_if (fun c24 => ?_) (fun c24 => ?_)
          · try simp (disch := omega) only [w32_of, w64_of, w8_of, decide_eq_true_eq, decide_eq_false_iff_not, Bool.not_eq_true] at c24
            exact wp_some (x_inl ⟨(by (try dsimp only) <;> first | assumption | omega | ((try simp (disch := omega) only [w32_of, w64_of, w8_of]) <;> first | assumption | omega | (split <;> omega) | (refine And.intro ?_ ?_ <;> split <;> omega)) | omega), (by (try dsimp only) <;> first | assumption | omega | ((try simp (disch := omega) only [w32_of, w64_of, w8_of]) <;> first | assumption | omega | (split <;> omega) | (refine And.intro ?_ ?_ <;> split <;> omega)) | omega)⟩)
          · try simp (disch := omega) only [w32_of, w64_of, w8_of, decide_eq_true_eq, decide_eq_false_iff_not, Bool.not_eq_true] at c24
            exact wp_some (x_inr (by (try dsimp only) <;> first | assumption | omega | ((try simp (disch := omega) only [w32_of, w64_of, w8_of]) <;> first | assumption | omega | (split <;> omega) | (refine And.intro ?_ ?_ <;> split <;> omega)) | omega))
        · try simp (disch := omega) only [w32_of, w64_of, w8_of, decide_eq_true_eq, decide_eq_false_iff_not, Bool.not_eq_true] at c16
          exact wp_some (x_inr (by (try dsimp only) <;> first | assumption | omega | ((try simp (disch := omega) only [w32_of, w64_of, w8_of]) <;> first | assumption | omega | (split <;> omega) | (refine And.intro ?_ ?_ <;> split <;> omega)) | omega))
      rintro high_42 _ g26
      refine wp_bd (P := fun rr_ => (fresh_2 ≤ rr_ ∧ rr_ ≤ 16384)) ?_ ?_
      · refine wp_whl (fun ss_ => (fresh_2 ≤ ss_ ∧ ss_ ≤ 16384)) (fun ss_ => (16385 - ss_).toNat) (by (try dsimp only) <;> first | assumption | omega | ((try simp (disch := omega) only [w32_of, w64_of, w8_of]) <;> first | assumption | omega | (split <;> omega) | (refine And.intro ?_ ?_ <;> split <;> omega)) | omega) ?_
        rintro fresh_43 g27
        have c29 := w32_rng fresh_43
        have c30 := ii_kN_pieces hσ_4 0
        have c31 := FC_at frσ_4 (c := kN_pieces) (by first | decide | (rcases hE with rfl | rfl | rfl <;> decide)) 0
        have c32 := ii_kN_pieces hσ 0
        have c33 := w32_rng (σ_4 kN_pieces 0)
        refine wp_if (fun c28 => ?_) (fun c28 => ?_)
        · try simp (disch := omega) only [w32_of, w64_of, w8_of, decide_eq_true_eq, decide_eq_false_iff_not, Bool.not_eq_true] at c28
          refine wp_rdI (by (try dsimp only) <;> first | assumption | omega | ((try simp (disch := omega) only [w32_of, w64_of, w8_of]) <;> first | assumption | omega | (split <;> omega) | (refine And.intro ?_ ?_ <;> split <;> omega)) | omega) (by (try dsimp only) <;> first | assumption | omega | ((try simp (disch := omega) only [w32_of, w64_of, w8_of]) <;> first | assumption | omega | (split <;> omega) | (refine And.intro ?_ ?_ <;> split <;> omega)) | omega) (fun x_60 e_x_60 => ?_)
          have b_x_60 : 0 ≤ x_60 ∧ x_60 ≤ 8191 := by rw [e_x_60]; exact ii_kN_pieceFrom hσ_4 _
          rw [FC_at frσ_4 (c := kN_pieceFrom) (by first | decide | (rcases hE with rfl | rfl | rfl <;> decide))] at e_x_60
          try simp (disch := omega) only [w32_of, w64_of, w8_of] at e_x_60
          have c34 := ii_kN_pieceFrom hσ_4 fresh_43
          have c35 := FC_at frσ_4 (c := kN_pieceFrom) (by first | decide | (rcases hE with rfl | rfl | rfl <;> decide)) fresh_43
          have c36 := ii_kN_pieceFrom hσ fresh_43
          have c38 := w32_rng x_60
          refine wp_if (fun c37 => ?_) (fun c37 => ?_)
          · try simp (disch := omega) only [w32_of, w64_of, w8_of, decide_eq_true_eq, decide_eq_false_iff_not, Bool.not_eq_true] at c37
            exact wp_some (x_inl ⟨(by (try dsimp only) <;> first | assumption | omega | ((try simp (disch := omega) only [w32_of, w64_of, w8_of]) <;> first | assumption | omega | (split <;> omega) | (refine And.intro ?_ ?_ <;> split <;> omega)) | omega), (by (try dsimp only) <;> first | assumption | omega | ((try simp (disch := omega) only [w32_of, w64_of, w8_of]) <;> first | assumption | omega | (split <;> omega) | (refine And.intro ?_ ?_ <;> split <;> omega)) | omega)⟩)
          · try simp (disch := omega) only [w32_of, w64_of, w8_of, decide_eq_true_eq, decide_eq_false_iff_not, Bool.not_eq_true] at c37
            exact wp_some (x_inr (by (try dsimp only) <;> first | assumption | omega | ((try simp (disch := omega) only [w32_of, w64_of, w8_of]) <;> first | assumption | omega | (split <;> omega) | (refine And.intro ?_ ?_ <;> split <;> omega)) | omega))
        · try simp (disch := omega) only [w32_of, w64_of, w8_of, decide_eq_true_eq, decide_eq_false_iff_not, Bool.not_eq_true] at c28
          exact wp_some (x_inr (by (try dsimp only) <;> first | assumption | omega | ((try simp (disch := omega) only [w32_of, w64_of, w8_of]) <;> first | assumption | omega | (split <;> omega) | (refine And.intro ?_ ?_ <;> split <;> omega)) | omega))
      rintro fresh_66 _ g39
      refine wp_bd (s_G_replaceActive (σ := σ_4) (low_0 := x_14) (high_0 := high_42) (begun_0 := fresh_2) (fresh_0 := fresh_66) hσ_4 (by (try dsimp only) <;> first | assumption | omega | ((try simp (disch := omega) only [w32_of, w64_of, w8_of]) <;> first | assumption | omega | (split <;> omega) | (refine And.intro ?_ ?_ <;> split <;> omega)) | omega) (by (try dsimp only) <;> first | assumption | omega | ((try simp (disch := omega) only [w32_of, w64_of, w8_of]) <;> first | assumption | omega | (split <;> omega) | (refine And.intro ?_ ?_ <;> split <;> omega)) | omega) (by (try dsimp only) <;> first | assumption | omega | ((try simp (disch := omega) only [w32_of, w64_of, w8_of]) <;> first | assumption | omega | (split <;> omega) | (refine And.intro ?_ ?_ <;> split <;> omega)) | omega)) ?_
      rintro σ_68 - ⟨hσ_68, flσ_68, g40⟩
      have frσ_68 : FC [kG_above, kG_active, kG_actives] [] σ σ_68 := FC_tr frσ_4 flσ_68 (by first | decide | (rcases hE with rfl | rfl | rfl <;> decide)) (by first | decide | (rcases hE with rfl | rfl | rfl <;> decide)) (by simp) (by simp)
      have c41 := ii_kG_actives hσ_68 0
      try simp (disch := omega) only [w32_of, w64_of, w8_of] at g40
      exact wp_some (x_inl ⟨⟨hσ_68, frσ_68, (by (try dsimp only) <;> first | assumption | omega | ((try simp (disch := omega) only [w32_of, w64_of, w8_of]) <;> first | assumption | omega | (split <;> omega) | (refine And.intro ?_ ?_ <;> split <;> omega)) | omega), (by (try dsimp only) <;> first | assumption | omega | ((try simp (disch := omega) only [w32_of, w64_of, w8_of]) <;> first | assumption | omega | (split <;> omega) | (refine And.intro ?_ ?_ <;> split <;> omega)) | omega), (by (try dsimp only) <;> first | assumption | omega | ((try simp (disch := omega) only [w32_of, w64_of, w8_of]) <;> first | assumption | omega | (split <;> omega) | (refine And.intro ?_ ?_ <;> split <;> omega)) | omega)⟩, (by (try dsimp only) <;> first | assumption | omega | ((try simp (disch := omega) only [w32_of, w64_of, w8_of]) <;> first | assumption | omega | (split <;> omega) | (refine And.intro ?_ ?_ <;> split <;> omega)) | omega)⟩)
    · try simp (disch := omega) only [w32_of, w64_of, w8_of, decide_eq_true_eq, decide_eq_false_iff_not, Bool.not_eq_true] at c7
      exact wp_some (x_inr ⟨hσ_4, frσ_4, (by (try dsimp only) <;> first | assumption | omega | ((try simp (disch := omega) only [w32_of, w64_of, w8_of]) <;> first | assumption | omega | (split <;> omega) | (refine And.intro ?_ ?_ <;> split <;> omega)) | omega)⟩)
  rintro ⟨fresh_73, h_74, σ_75⟩ _ y43
  try dsimp only at y43 ⊢
  obtain ⟨hσ_75, frσ_75, g42⟩ := y43
  exact wp_some ⟨hσ_75, frσ_75⟩
theorem s_G_isFartherLeft {σ : SG} {h_0 : Int} {back_0 : Int} {a_0 : Int} {b_0 : Int} (hσ : II σ) (w0 : 0 ≤ h_0 ∧ h_0 ≤ 8191) (w1 : 0 ≤ back_0 ∧ back_0 ≤ 8191) (w2 : 0 ≤ a_0 ∧ a_0 ≤ 8191) (w3 : 0 ≤ b_0 ∧ b_0 ≤ 8191) : wp_ (fG_isFartherLeft σ h_0 back_0 a_0 b_0) (fun zz_ => True) := by
  unfold fG_isFartherLeft
  refine wp_bd (s_G_turnAt (σ := σ) (a_0 := h_0) (b_0 := back_0) (c_0 := a_0) hσ (by (try dsimp only) <;> first | assumption | omega | ((try simp (disch := omega) only [w32_of, w64_of, w8_of]) <;> first | assumption | omega | (split <;> omega) | (refine And.intro ?_ ?_ <;> split <;> omega)) | omega) (by (try dsimp only) <;> first | assumption | omega | ((try simp (disch := omega) only [w32_of, w64_of, w8_of]) <;> first | assumption | omega | (split <;> omega) | (refine And.intro ?_ ?_ <;> split <;> omega)) | omega) (by (try dsimp only) <;> first | assumption | omega | ((try simp (disch := omega) only [w32_of, w64_of, w8_of]) <;> first | assumption | omega | (split <;> omega) | (refine And.intro ?_ ?_ <;> split <;> omega)) | omega)) ?_
  rintro x_2 - g1
  try simp (disch := omega) only [w32_of, w64_of, w8_of] at g1
  refine wp_bd (s_G_turnAt (σ := σ) (a_0 := h_0) (b_0 := back_0) (c_0 := b_0) hσ (by (try dsimp only) <;> first | assumption | omega | ((try simp (disch := omega) only [w32_of, w64_of, w8_of]) <;> first | assumption | omega | (split <;> omega) | (refine And.intro ?_ ?_ <;> split <;> omega)) | omega) (by (try dsimp only) <;> first | assumption | omega | ((try simp (disch := omega) only [w32_of, w64_of, w8_of]) <;> first | assumption | omega | (split <;> omega) | (refine And.intro ?_ ?_ <;> split <;> omega)) | omega) (by (try dsimp only) <;> first | assumption | omega | ((try simp (disch := omega) only [w32_of, w64_of, w8_of]) <;> first | assumption | omega | (split <;> omega) | (refine And.intro ?_ ?_ <;> split <;> omega)) | omega)) ?_
  rintro x_4 - g2
  try simp (disch := omega) only [w32_of, w64_of, w8_of] at g2
  have c4 := w32_rng x_2
  have c5 := w32_rng x_4
  refine wp_if (fun c3 => ?_) (fun c3 => ?_)
  · try simp (disch := omega) only [w32_of, w64_of, w8_of, decide_eq_true_eq, decide_eq_false_iff_not, Bool.not_eq_true] at c3
    exact wp_some trivial
  · try simp (disch := omega) only [w32_of, w64_of, w8_of, decide_eq_true_eq, decide_eq_false_iff_not, Bool.not_eq_true] at c3
    refine wp_bd (P := fun rr_ => True) ?_ ?_
    · refine wp_bd (s_G_turnAt (σ := σ) (a_0 := h_0) (b_0 := a_0) (c_0 := b_0) hσ (by (try dsimp only) <;> first | assumption | omega | ((try simp (disch := omega) only [w32_of, w64_of, w8_of]) <;> first | assumption | omega | (split <;> omega) | (refine And.intro ?_ ?_ <;> split <;> omega)) | omega) (by (try dsimp only) <;> first | assumption | omega | ((try simp (disch := omega) only [w32_of, w64_of, w8_of]) <;> first | assumption | omega | (split <;> omega) | (refine And.intro ?_ ?_ <;> split <;> omega)) | omega) (by (try dsimp only) <;> first | assumption | omega | ((try simp (disch := omega) only [w32_of, w64_of, w8_of]) <;> first | assumption | omega | (split <;> omega) | (refine And.intro ?_ ?_ <;> split <;> omega)) | omega)) ?_
      rintro x_9 - g6
      try simp (disch := omega) only [w32_of, w64_of, w8_of] at g6
      have c8 := w32_rng x_9
      refine wp_if (fun c7 => ?_) (fun c7 => ?_)
      · try simp (disch := omega) only [w32_of, w64_of, w8_of, decide_eq_true_eq, decide_eq_false_iff_not, Bool.not_eq_true] at c7
        exact wp_some trivial
      · try simp (disch := omega) only [w32_of, w64_of, w8_of, decide_eq_true_eq, decide_eq_false_iff_not, Bool.not_eq_true] at c7
        exact wp_some trivial
    rintro x_13 _ -
    exact wp_some trivial
theorem s_G_nextPiece {σ : SG} {piece_0 : Int} {h_0 : Int} (hσ : II σ) (w0 : 0 ≤ piece_0 ∧ piece_0 ≤ 16383) (w1 : 0 ≤ h_0 ∧ h_0 ≤ 8191) : wp_ (fG_nextPiece σ piece_0 h_0) (fun zz_ => (-1 ≤ zz_ ∧ zz_ ≤ 16383)) := by
  unfold fG_nextPiece
  refine wp_bd (s_G_startOf (σ := σ) (piece_0 := piece_0) hσ (by (try dsimp only) <;> first | assumption | omega | ((try simp (disch := omega) only [w32_of, w64_of, w8_of]) <;> first | assumption | omega | (split <;> omega) | (refine And.intro ?_ ?_ <;> split <;> omega)) | omega)) ?_
  rintro x_2 - g1
  try simp (disch := omega) only [w32_of, w64_of, w8_of] at g1
  have c2 := w32_rng h_0
  refine wp_rdI (by (try dsimp only) <;> first | assumption | omega | ((try simp (disch := omega) only [w32_of, w64_of, w8_of]) <;> first | assumption | omega | (split <;> omega) | (refine And.intro ?_ ?_ <;> split <;> omega)) | omega) (by (try dsimp only) <;> first | assumption | omega | ((try simp (disch := omega) only [w32_of, w64_of, w8_of]) <;> first | assumption | omega | (split <;> omega) | (refine And.intro ?_ ?_ <;> split <;> omega)) | omega) (fun x_3 e_x_3 => ?_)
  have b_x_3 : 0 ≤ x_3 ∧ x_3 ≤ 32768 := by rw [e_x_3]; exact ii_kG_begin hσ _
  try simp (disch := omega) only [w32_of, w64_of, w8_of] at e_x_3
  have c3 := ii_kG_begin hσ h_0
  refine wp_bd (P := fun rr_ => (-1 ≤ rr_.1 ∧ rr_.1 ≤ 16383)) ?_ ?_
  · refine wp_whl (fun ss_ => (-1 ≤ ss_.1 ∧ ss_.1 ≤ 16383) ∧ (0 ≤ ss_.2 ∧ ss_.2 ≤ 32768)) (fun ss_ => (32769 - ss_.2).toNat) ⟨(by (try dsimp only) <;> first | assumption | omega | ((try simp (disch := omega) only [w32_of, w64_of, w8_of]) <;> first | assumption | omega | (split <;> omega) | (refine And.intro ?_ ?_ <;> split <;> omega)) | omega), (by (try dsimp only) <;> first | assumption | omega | ((try simp (disch := omega) only [w32_of, w64_of, w8_of]) <;> first | assumption | omega | (split <;> omega) | (refine And.intro ?_ ?_ <;> split <;> omega)) | omega)⟩ ?_
    rintro ⟨best_5, k_6⟩ y6
    try dsimp only at y6 ⊢
    obtain ⟨g4, g5⟩ := y6
    have c7 := w32_rng (h_0 + 1)
    refine wp_rdI (by (try dsimp only) <;> first | assumption | omega | ((try simp (disch := omega) only [w32_of, w64_of, w8_of]) <;> first | assumption | omega | (split <;> omega) | (refine And.intro ?_ ?_ <;> split <;> omega)) | omega) (by (try dsimp only) <;> first | assumption | omega | ((try simp (disch := omega) only [w32_of, w64_of, w8_of]) <;> first | assumption | omega | (split <;> omega) | (refine And.intro ?_ ?_ <;> split <;> omega)) | omega) (fun x_14 e_x_14 => ?_)
    have b_x_14 : 0 ≤ x_14 ∧ x_14 ≤ 32768 := by rw [e_x_14]; exact ii_kG_begin hσ _
    try simp (disch := omega) only [w32_of, w64_of, w8_of] at e_x_14
    have c8 := ii_kG_begin hσ (h_0 + 1)
    have c10 := w32_rng k_6
    have c11 := w32_rng x_14
    refine wp_if (fun c9 => ?_) (fun c9 => ?_)
    · try simp (disch := omega) only [w32_of, w64_of, w8_of, decide_eq_true_eq, decide_eq_false_iff_not, Bool.not_eq_true] at c9
      refine wp_rdI (by (try dsimp only) <;> first | assumption | omega | ((try simp (disch := omega) only [w32_of, w64_of, w8_of]) <;> first | assumption | omega | (split <;> omega) | (refine And.intro ?_ ?_ <;> split <;> omega)) | omega) (by (try dsimp only) <;> first | assumption | omega | ((try simp (disch := omega) only [w32_of, w64_of, w8_of]) <;> first | assumption | omega | (split <;> omega) | (refine And.intro ?_ ?_ <;> split <;> omega)) | omega) (fun x_17 e_x_17 => ?_)
      have b_x_17 : 0 ≤ x_17 ∧ x_17 ≤ 16383 := by rw [e_x_17]; exact ii_kG_incident hσ _
      try simp (disch := omega) only [w32_of, w64_of, w8_of] at e_x_17
      have c12 := ii_kG_incident hσ k_6
      refine wp_bd (P := fun rr_ => (-1 ≤ rr_ ∧ rr_ ≤ 16383)) ?_ ?_
      · have c14 := w32_rng x_17
        have c15 := w32_rng piece_0
        refine wp_if (fun c13 => ?_) (fun c13 => ?_)
        · try simp (disch := omega) only [w32_of, w64_of, w8_of, decide_eq_true_eq, decide_eq_false_iff_not, Bool.not_eq_true] at c13
          have c17 := w32_rng best_5
          refine wp_if (fun c16 => ?_) (fun c16 => ?_)
          · try simp (disch := omega) only [w32_of, w64_of, w8_of, decide_eq_true_eq, decide_eq_false_iff_not, Bool.not_eq_true] at c16
            exact wp_some (by (try dsimp only) <;> first | assumption | omega | ((try simp (disch := omega) only [w32_of, w64_of, w8_of]) <;> first | assumption | omega | (split <;> omega) | (refine And.intro ?_ ?_ <;> split <;> omega)) | omega)
          · try simp (disch := omega) only [w32_of, w64_of, w8_of, decide_eq_true_eq, decide_eq_false_iff_not, Bool.not_eq_true] at c16
            refine wp_bd (s_G_otherEnd (σ := σ) (piece_0 := best_5) (h_0 := h_0) hσ (by (try dsimp only) <;> first | assumption | omega | ((try simp (disch := omega) only [w32_of, w64_of, w8_of]) <;> first | assumption | omega | (split <;> omega) | (refine And.intro ?_ ?_ <;> split <;> omega)) | omega) (by (try dsimp only) <;> first | assumption | omega | ((try simp (disch := omega) only [w32_of, w64_of, w8_of]) <;> first | assumption | omega | (split <;> omega) | (refine And.intro ?_ ?_ <;> split <;> omega)) | omega)) ?_
            rintro x_42 - g18
            try simp (disch := omega) only [w32_of, w64_of, w8_of] at g18
            refine wp_bd (s_G_otherEnd (σ := σ) (piece_0 := x_17) (h_0 := h_0) hσ (by (try dsimp only) <;> first | assumption | omega | ((try simp (disch := omega) only [w32_of, w64_of, w8_of]) <;> first | assumption | omega | (split <;> omega) | (refine And.intro ?_ ?_ <;> split <;> omega)) | omega) (by (try dsimp only) <;> first | assumption | omega | ((try simp (disch := omega) only [w32_of, w64_of, w8_of]) <;> first | assumption | omega | (split <;> omega) | (refine And.intro ?_ ?_ <;> split <;> omega)) | omega)) ?_
            rintro x_44 - g19
            try simp (disch := omega) only [w32_of, w64_of, w8_of] at g19
            refine wp_bd (s_G_isFartherLeft (σ := σ) (h_0 := h_0) (back_0 := x_2) (a_0 := x_42) (b_0 := x_44) hσ (by (try dsimp only) <;> first | assumption | omega | ((try simp (disch := omega) only [w32_of, w64_of, w8_of]) <;> first | assumption | omega | (split <;> omega) | (refine And.intro ?_ ?_ <;> split <;> omega)) | omega) (by (try dsimp only) <;> first | assumption | omega | ((try simp (disch := omega) only [w32_of, w64_of, w8_of]) <;> first | assumption | omega | (split <;> omega) | (refine And.intro ?_ ?_ <;> split <;> omega)) | omega) (by (try dsimp only) <;> first | assumption | omega | ((try simp (disch := omega) only [w32_of, w64_of, w8_of]) <;> first | assumption | omega | (split <;> omega) | (refine And.intro ?_ ?_ <;> split <;> omega)) | omega) (by (try dsimp only) <;> first | assumption | omega | ((try simp (disch := omega) only [w32_of, w64_of, w8_of]) <;> first | assumption | omega | (split <;> omega) | (refine And.intro ?_ ?_ <;> split <;> omega)) | omega)) ?_
            rintro x_46 - -
            refine wp_if (fun c21 => ?_) (fun c21 => ?_)
            · try simp (disch := omega) only [w32_of, w64_of, w8_of, decide_eq_true_eq, decide_eq_false_iff_not, Bool.not_eq_true] at c21
              exact wp_some (by (try dsimp only) <;> first | assumption | omega | ((try simp (disch := omega) only [w32_of, w64_of, w8_of]) <;> first | assumption | omega | (split <;> omega) | (refine And.intro ?_ ?_ <;> split <;> omega)) | omega)
            · try simp (disch := omega) only [w32_of, w64_of, w8_of, decide_eq_true_eq, decide_eq_false_iff_not, Bool.not_eq_true] at c21
              exact wp_some (by (try dsimp only) <;> first | assumption | omega | ((try simp (disch := omega) only [w32_of, w64_of, w8_of]) <;> first | assumption | omega | (split <;> omega) | (refine And.intro ?_ ?_ <;> split <;> omega)) | omega)
        · try simp (disch := omega) only [w32_of, w64_of, w8_of, decide_eq_true_eq, decide_eq_false_iff_not, Bool.not_eq_true] at c13
          exact wp_some (by (try dsimp only) <;> first | assumption | omega | ((try simp (disch := omega) only [w32_of, w64_of, w8_of]) <;> first | assumption | omega | (split <;> omega) | (refine And.intro ?_ ?_ <;> split <;> omega)) | omega)
      rintro best_51 _ g22
      exact wp_some (x_inl ⟨⟨(by (try dsimp only) <;> first | assumption | omega | ((try simp (disch := omega) only [w32_of, w64_of, w8_of]) <;> first | assumption | omega | (split <;> omega) | (refine And.intro ?_ ?_ <;> split <;> omega)) | omega), (by (try dsimp only) <;> first | assumption | omega | ((try simp (disch := omega) only [w32_of, w64_of, w8_of]) <;> first | assumption | omega | (split <;> omega) | (refine And.intro ?_ ?_ <;> split <;> omega)) | omega)⟩, (by (try dsimp only) <;> first | assumption | omega | ((try simp (disch := omega) only [w32_of, w64_of, w8_of]) <;> first | assumption | omega | (split <;> omega) | (refine And.intro ?_ ?_ <;> split <;> omega)) | omega)⟩)
    · try simp (disch := omega) only [w32_of, w64_of, w8_of, decide_eq_true_eq, decide_eq_false_iff_not, Bool.not_eq_true] at c9
      exact wp_some (x_inr (by (try dsimp only) <;> first | assumption | omega | ((try simp (disch := omega) only [w32_of, w64_of, w8_of]) <;> first | assumption | omega | (split <;> omega) | (refine And.intro ?_ ?_ <;> split <;> omega)) | omega))
  rintro ⟨best_55, k_56⟩ _ y24
  try dsimp only at y24 ⊢
  have g23 := y24
  exact wp_some (by (try dsimp only) <;> first | assumption | omega | ((try simp (disch := omega) only [w32_of, w64_of, w8_of]) <;> first | assumption | omega | (split <;> omega) | (refine And.intro ?_ ?_ <;> split <;> omega)) | omega)
theorem s_G_twiceAround {σ : SG} {from_0 : Int} {to_0 : Int} (hσ : II σ) (w0 : 0 ≤ from_0 ∧ from_0 ≤ to_0 ∧ to_0 ≤ 2048) : wp_ (fG_twiceAround σ from_0 to_0) (fun zz_ => True) := by
  unfold fG_twiceAround
  refine wp_bd (P := fun rr_ => (True)) ?_ ?_
  · refine wp_whl (fun ss_ => (from_0 ≤ ss_.2 ∧ ss_.2 ≤ to_0)) (fun ss_ => (to_0 - ss_.2).toNat) (by (try dsimp only) <;> first | assumption | omega | ((try simp (disch := omega) only [w32_of, w64_of, w8_of]) <;> first | assumption | omega | (split <;> omega) | (refine And.intro ?_ ?_ <;> split <;> omega)) | omega) ?_
    rintro ⟨total_1, k_2⟩ y2
    try dsimp only at y2 ⊢
    have g1 := y2
    have c4 := w32_rng k_2
    have c5 := w32_rng to_0
    refine wp_if (fun c3 => ?_) (fun c3 => ?_)
    · try simp (disch := omega) only [w32_of, w64_of, w8_of, decide_eq_true_eq, decide_eq_false_iff_not, Bool.not_eq_true] at c3
      refine wp_bd (P := fun rr_ => (0 ≤ rr_ ∧ rr_ ≤ 8191)) ?_ ?_
      · have c7 := w32_rng (k_2 + 1)
        refine wp_if (fun c6 => ?_) (fun c6 => ?_)
        · try simp (disch := omega) only [w32_of, w64_of, w8_of, decide_eq_true_eq, decide_eq_false_iff_not, Bool.not_eq_true] at c6
          refine wp_rdI (by (try dsimp only) <;> first | assumption | omega | ((try simp (disch := omega) only [w32_of, w64_of, w8_of]) <;> first | assumption | omega | (split <;> omega) | (refine And.intro ?_ ?_ <;> split <;> omega)) | omega) (by (try dsimp only) <;> first | assumption | omega | ((try simp (disch := omega) only [w32_of, w64_of, w8_of]) <;> first | assumption | omega | (split <;> omega) | (refine And.intro ?_ ?_ <;> split <;> omega)) | omega) (fun x_16 e_x_16 => ?_)
          have b_x_16 : 0 ≤ x_16 ∧ x_16 ≤ 8191 := by rw [e_x_16]; exact ii_kG_corner hσ _
          try simp (disch := omega) only [w32_of, w64_of, w8_of] at e_x_16
          have c8 := ii_kG_corner hσ (k_2 + 1)
          exact wp_some (by (try dsimp only) <;> first | assumption | omega | ((try simp (disch := omega) only [w32_of, w64_of, w8_of]) <;> first | assumption | omega | (split <;> omega) | (refine And.intro ?_ ?_ <;> split <;> omega)) | omega)
        · try simp (disch := omega) only [w32_of, w64_of, w8_of, decide_eq_true_eq, decide_eq_false_iff_not, Bool.not_eq_true] at c6
          have c9 := w32_rng from_0
          refine wp_rdI (by (try dsimp only) <;> first | assumption | omega | ((try simp (disch := omega) only [w32_of, w64_of, w8_of]) <;> first | assumption | omega | (split <;> omega) | (refine And.intro ?_ ?_ <;> split <;> omega)) | omega) (by (try dsimp only) <;> first | assumption | omega | ((try simp (disch := omega) only [w32_of, w64_of, w8_of]) <;> first | assumption | omega | (split <;> omega) | (refine And.intro ?_ ?_ <;> split <;> omega)) | omega) (fun x_19 e_x_19 => ?_)
          have b_x_19 : 0 ≤ x_19 ∧ x_19 ≤ 8191 := by rw [e_x_19]; exact ii_kG_corner hσ _
          try simp (disch := omega) only [w32_of, w64_of, w8_of] at e_x_19
          have c10 := ii_kG_corner hσ from_0
          exact wp_some (by (try dsimp only) <;> first | assumption | omega | ((try simp (disch := omega) only [w32_of, w64_of, w8_of]) <;> first | assumption | omega | (split <;> omega) | (refine And.intro ?_ ?_ <;> split <;> omega)) | omega)
      rintro x_22 _ g11
      refine wp_rdI (by (try dsimp only) <;> first | assumption | omega | ((try simp (disch := omega) only [w32_of, w64_of, w8_of]) <;> first | assumption | omega | (split <;> omega) | (refine And.intro ?_ ?_ <;> split <;> omega)) | omega) (by (try dsimp only) <;> first | assumption | omega | ((try simp (disch := omega) only [w32_of, w64_of, w8_of]) <;> first | assumption | omega | (split <;> omega) | (refine And.intro ?_ ?_ <;> split <;> omega)) | omega) (fun x_23 e_x_23 => ?_)
      have b_x_23 : 0 ≤ x_23 ∧ x_23 ≤ 8191 := by rw [e_x_23]; exact ii_kG_corner hσ _
      try simp (disch := omega) only [w32_of, w64_of, w8_of] at e_x_23
      have c12 := ii_kG_corner hσ k_2
      have c13 := w32_rng x_23
      refine wp_rdI (by (try dsimp only) <;> first | assumption | omega | ((try simp (disch := omega) only [w32_of, w64_of, w8_of]) <;> first | assumption | omega | (split <;> omega) | (refine And.intro ?_ ?_ <;> split <;> omega)) | omega) (by (try dsimp only) <;> first | assumption | omega | ((try simp (disch := omega) only [w32_of, w64_of, w8_of]) <;> first | assumption | omega | (split <;> omega) | (refine And.intro ?_ ?_ <;> split <;> omega)) | omega) (fun x_25 e_x_25 => ?_)
      have b_x_25 : (-1000000000) ≤ x_25 ∧ x_25 ≤ 1000000000 := by rw [e_x_25]; exact ii_kN_hotX hσ _
      try simp (disch := omega) only [w32_of, w64_of, w8_of] at e_x_25
      have c14 := ii_kN_hotX hσ x_23
      have c15 := w32_rng x_22
      refine wp_rdI (by (try dsimp only) <;> first | assumption | omega | ((try simp (disch := omega) only [w32_of, w64_of, w8_of]) <;> first | assumption | omega | (split <;> omega) | (refine And.intro ?_ ?_ <;> split <;> omega)) | omega) (by (try dsimp only) <;> first | assumption | omega | ((try simp (disch := omega) only [w32_of, w64_of, w8_of]) <;> first | assumption | omega | (split <;> omega) | (refine And.intro ?_ ?_ <;> split <;> omega)) | omega) (fun x_27 e_x_27 => ?_)
      have b_x_27 : (-1000000000) ≤ x_27 ∧ x_27 ≤ 1000000000 := by rw [e_x_27]; exact ii_kN_hotY hσ _
      try simp (disch := omega) only [w32_of, w64_of, w8_of] at e_x_27
      have c16 := ii_kN_hotY hσ x_22
      refine wp_rdI (by (try dsimp only) <;> first | assumption | omega | ((try simp (disch := omega) only [w32_of, w64_of, w8_of]) <;> first | assumption | omega | (split <;> omega) | (refine And.intro ?_ ?_ <;> split <;> omega)) | omega) (by (try dsimp only) <;> first | assumption | omega | ((try simp (disch := omega) only [w32_of, w64_of, w8_of]) <;> first | assumption | omega | (split <;> omega) | (refine And.intro ?_ ?_ <;> split <;> omega)) | omega) (fun x_29 e_x_29 => ?_)
      have b_x_29 : (-1000000000) ≤ x_29 ∧ x_29 ≤ 1000000000 := by rw [e_x_29]; exact ii_kN_hotX hσ _
      try simp (disch := omega) only [w32_of, w64_of, w8_of] at e_x_29
      have c17 := ii_kN_hotX hσ x_22
      refine wp_rdI (by (try dsimp only) <;> first | assumption | omega | ((try simp (disch := omega) only [w32_of, w64_of, w8_of]) <;> first | assumption | omega | (split <;> omega) | (refine And.intro ?_ ?_ <;> split <;> omega)) | omega) (by (try dsimp only) <;> first | assumption | omega | ((try simp (disch := omega) only [w32_of, w64_of, w8_of]) <;> first | assumption | omega | (split <;> omega) | (refine And.intro ?_ ?_ <;> split <;> omega)) | omega) (fun x_31 e_x_31 => ?_)
      have b_x_31 : 0 ≤ x_31 ∧ x_31 ≤ 8191 := by rw [e_x_31]; exact ii_kG_corner hσ _
      try simp (disch := omega) only [w32_of, w64_of, w8_of] at e_x_31
      have c18 := w32_rng x_31
      refine wp_rdI (by (try dsimp only) <;> first | assumption | omega | ((try simp (disch := omega) only [w32_of, w64_of, w8_of]) <;> first | assumption | omega | (split <;> omega) | (refine And.intro ?_ ?_ <;> split <;> omega)) | omega) (by (try dsimp only) <;> first | assumption | omega | ((try simp (disch := omega) only [w32_of, w64_of, w8_of]) <;> first | assumption | omega | (split <;> omega) | (refine And.intro ?_ ?_ <;> split <;> omega)) | omega) (fun x_33 e_x_33 => ?_)
      have b_x_33 : (-1000000000) ≤ x_33 ∧ x_33 ≤ 1000000000 := by rw [e_x_33]; exact ii_kN_hotY hσ _
      try simp (disch := omega) only [w32_of, w64_of, w8_of] at e_x_33
      have c19 := ii_kN_hotY hσ x_31
      have c20 := w32_rng x_25
      have c21 := w32_rng x_27
      have c22 := w32_rng x_29
      have c23 := w32_rng x_33
      refine wp_lt (fun x_35 e_x_35 => ?_)
      try simp (disch := omega) only [w32_of, w64_of, w8_of] at e_x_35
      exact wp_some (x_inl ⟨(by (try dsimp only) <;> first | assumption | omega | ((try simp (disch := omega) only [w32_of, w64_of, w8_of]) <;> first | assumption | omega | (split <;> omega) | (refine And.intro ?_ ?_ <;> split <;> omega)) | omega), (by (try dsimp only) <;> first | assumption | omega | ((try simp (disch := omega) only [w32_of, w64_of, w8_of]) <;> first | assumption | omega | (split <;> omega) | (refine And.intro ?_ ?_ <;> split <;> omega)) | omega)⟩)
    · try simp (disch := omega) only [w32_of, w64_of, w8_of, decide_eq_true_eq, decide_eq_false_iff_not, Bool.not_eq_true] at c3
      exact wp_some (x_inr (by (try dsimp only) <;> first | assumption | omega | ((try simp (disch := omega) only [w32_of, w64_of, w8_of]) <;> first | assumption | omega | (split <;> omega) | (refine And.intro ?_ ?_ <;> split <;> omega)) | omega))
  rintro ⟨total_42, k_43⟩ _ y25
  try dsimp only at y25 ⊢
  have g24 := y25
  exact wp_some trivial
theorem s_G_takeRing {σ : SG} {from_0 : Int} {to_0 : Int} (hσ : II σ) (w0 : RGs σ) (w1 : 0 ≤ from_0 ∧ from_0 ≤ 8192) (w2 : 0 ≤ to_0 ∧ to_0 ≤ 8193) : wp_ (fG_takeRing σ from_0 to_0) (fun zz_ => II zz_.2 ∧ FC [kG_corner, kG_corners, kG_ringArea, kG_ringBegin, kG_rings] [] σ zz_.2 ∧ ((zz_.1 = true) → (RGs zz_.2))) := by
  unfold fG_takeRing
  have hrg := ii_kG_rings hσ 0
  have hco := ii_kG_corners hσ 0
  refine wp_bd (P := fun rr_ => (from_0 ≤ rr_.1 ∧ (rr_.1 < to_0 ∨ rr_.1 = from_0))) ?_ ?_
  · refine wp_whl (fun ss_ => (from_0 ≤ ss_.2 ∧ (ss_.2 ≤ to_0 ∨ ss_.2 = from_0)) ∧ (from_0 ≤ ss_.1 ∧ (ss_.1 < to_0 ∨ ss_.1 = from_0))) (fun ss_ => (to_0 - ss_.2).toNat) ⟨(by (try dsimp only) <;> first | assumption | omega | ((try simp (disch := omega) only [w32_of, w64_of, w8_of]) <;> first | assumption | omega | (split <;> omega) | (refine And.intro ?_ ?_ <;> split <;> omega)) | omega), (by (try dsimp only) <;> first | assumption | omega | ((try simp (disch := omega) only [w32_of, w64_of, w8_of]) <;> first | assumption | omega | (split <;> omega) | (refine And.intro ?_ ?_ <;> split <;> omega)) | omega)⟩ ?_
    rintro ⟨least_1, k_2⟩ y3
    try dsimp only at y3 ⊢
    obtain ⟨g1, g2⟩ := y3
    have c5 := w32_rng k_2
    have c6 := w32_rng to_0
    refine wp_if (fun c4 => ?_) (fun c4 => ?_)
    · try simp (disch := omega) only [w32_of, w64_of, w8_of, decide_eq_true_eq, decide_eq_false_iff_not, Bool.not_eq_true] at c4
      refine wp_bd (P := fun rr_ => (from_0 ≤ rr_ ∧ (rr_ < to_0 ∨ rr_ = from_0))) ?_ ?_
      · refine wp_rdI (by (try dsimp only) <;> first | assumption | omega | ((try simp (disch := omega) only [w32_of, w64_of, w8_of]) <;> first | assumption | omega | (split <;> omega) | (refine And.intro ?_ ?_ <;> split <;> omega)) | omega) (by (try dsimp only) <;> first | assumption | omega | ((try simp (disch := omega) only [w32_of, w64_of, w8_of]) <;> first | assumption | omega | (split <;> omega) | (refine And.intro ?_ ?_ <;> split <;> omega)) | omega) (fun x_11 e_x_11 => ?_)
        have b_x_11 : 0 ≤ x_11 ∧ x_11 ≤ 8191 := by rw [e_x_11]; exact ii_kG_path hσ _
        try simp (disch := omega) only [w32_of, w64_of, w8_of] at e_x_11
        have c7 := ii_kG_path hσ k_2
        have c8 := w32_rng least_1
        refine wp_rdI (by (try dsimp only) <;> first | assumption | omega | ((try simp (disch := omega) only [w32_of, w64_of, w8_of]) <;> first | assumption | omega | (split <;> omega) | (refine And.intro ?_ ?_ <;> split <;> omega)) | omega) (by (try dsimp only) <;> first | assumption | omega | ((try simp (disch := omega) only [w32_of, w64_of, w8_of]) <;> first | assumption | omega | (split <;> omega) | (refine And.intro ?_ ?_ <;> split <;> omega)) | omega) (fun x_13 e_x_13 => ?_)
        have b_x_13 : 0 ≤ x_13 ∧ x_13 ≤ 8191 := by rw [e_x_13]; exact ii_kG_path hσ _
        try simp (disch := omega) only [w32_of, w64_of, w8_of] at e_x_13
        have c9 := ii_kG_path hσ least_1
        have c11 := w32_rng x_11
        have c12 := w32_rng x_13
        refine wp_if (fun c10 => ?_) (fun c10 => ?_)
        · try simp (disch := omega) only [w32_of, w64_of, w8_of, decide_eq_true_eq, decide_eq_false_iff_not, Bool.not_eq_true] at c10
          exact wp_some (by (try dsimp only) <;> first | assumption | omega | ((try simp (disch := omega) only [w32_of, w64_of, w8_of]) <;> first | assumption | omega | (split <;> omega) | (refine And.intro ?_ ?_ <;> split <;> omega)) | omega)
        · try simp (disch := omega) only [w32_of, w64_of, w8_of, decide_eq_true_eq, decide_eq_false_iff_not, Bool.not_eq_true] at c10
          exact wp_some (by (try dsimp only) <;> first | assumption | omega | ((try simp (disch := omega) only [w32_of, w64_of, w8_of]) <;> first | assumption | omega | (split <;> omega) | (refine And.intro ?_ ?_ <;> split <;> omega)) | omega)
      rintro x_18 _ g13
      exact wp_some (x_inl ⟨⟨(by (try dsimp only) <;> first | assumption | omega | ((try simp (disch := omega) only [w32_of, w64_of, w8_of]) <;> first | assumption | omega | (split <;> omega) | (refine And.intro ?_ ?_ <;> split <;> omega)) | omega), (by (try dsimp only) <;> first | assumption | omega | ((try simp (disch := omega) only [w32_of, w64_of, w8_of]) <;> first | assumption | omega | (split <;> omega) | (refine And.intro ?_ ?_ <;> split <;> omega)) | omega)⟩, (by (try dsimp only) <;> first | assumption | omega | ((try simp (disch := omega) only [w32_of, w64_of, w8_of]) <;> first | assumption | omega | (split <;> omega) | (refine And.intro ?_ ?_ <;> split <;> omega)) | omega)⟩)
    · try simp (disch := omega) only [w32_of, w64_of, w8_of, decide_eq_true_eq, decide_eq_false_iff_not, Bool.not_eq_true] at c4
      exact wp_some (x_inr (by (try dsimp only) <;> first | assumption | omega | ((try simp (disch := omega) only [w32_of, w64_of, w8_of]) <;> first | assumption | omega | (split <;> omega) | (refine And.intro ?_ ?_ <;> split <;> omega)) | omega))
  rintro ⟨least_25, k_26⟩ _ y15
  try dsimp only at y15 ⊢
  have g14 := y15
  have c17 := ii_kG_rings hσ 0
  have c18 := w32_rng (σ kG_rings 0)
  refine wp_if (fun c16 => ?_) (fun c16 => ?_)
  · try simp (disch := omega) only [w32_of, w64_of, w8_of, decide_eq_true_eq, decide_eq_false_iff_not, Bool.not_eq_true] at c16
    exact wp_some ⟨hσ, (FC_refl _ _ _), (fun q => (by cases q))⟩
  · try simp (disch := omega) only [w32_of, w64_of, w8_of, decide_eq_true_eq, decide_eq_false_iff_not, Bool.not_eq_true] at c16
    have c19 := ii_kG_corners hσ 0
    refine wp_waI hσ b_kG_ringBegin (by (try dsimp only) <;> first | assumption | omega | ((try simp (disch := omega) only [w32_of, w64_of, w8_of]) <;> first | assumption | omega | (split <;> omega) | (refine And.intro ?_ ?_ <;> split <;> omega)) | omega) (by (try dsimp only) <;> first | assumption | omega | ((try simp (disch := omega) only [w32_of, w64_of, w8_of]) <;> first | assumption | omega | (split <;> omega) | (refine And.intro ?_ ?_ <;> split <;> omega)) | omega) (by (try dsimp only) <;> first | assumption | omega | ((try simp (disch := omega) only [w32_of, w64_of, w8_of]) <;> first | assumption | omega | (split <;> omega) | (refine And.intro ?_ ?_ <;> split <;> omega)) | omega) (fun σ_28 hσ_28 eσ_28 => ?_)
    try simp (disch := omega) only [w32_of, w64_of, w8_of] at eσ_28
    have flσ_28 := FC_sg eσ_28 (by first | decide | (rcases hE with rfl | rfl | rfl <;> decide))
    have frσ_28 : FC [kG_corner, kG_corners, kG_ringArea, kG_ringBegin, kG_rings] [] σ σ_28 := FC_le flσ_28 (by first | decide | (rcases hE with rfl | rfl | rfl <;> decide)) (by simp)
    refine wp_bx (P := fun rr_ => II rr_.2 ∧ FC [kG_corner, kG_corners, kG_ringArea, kG_ringBegin, kG_rings] [] σ rr_.2 ∧ (rr_.2 kG_rings 0 = σ kG_rings 0) ∧ (σ kG_corners 0 ≤ rr_.2 kG_corners 0) ∧ (∀ i, rr_.2 kG_ringBegin i = σ_28 kG_ringBegin i)) ?_ ?_
    · have c20 := ii_kG_rings hσ_28 0
      have c21 := FC_at flσ_28 (c := kG_rings) (by first | decide | (rcases hE with rfl | rfl | rfl <;> decide)) 0
      have c22 := ii_kG_corners hσ_28 0
      have c23 := FC_at flσ_28 (c := kG_corners) (by first | decide | (rcases hE with rfl | rfl | rfl <;> decide)) 0
      refine wp_whl (fun ss_ => II ss_.2 ∧ FC [kG_corner, kG_corners, kG_ringArea, kG_ringBegin, kG_rings] [] σ ss_.2 ∧ (0 ≤ ss_.1 ∧ (ss_.1 ≤ to_0 - from_0 ∨ ss_.1 = 0)) ∧ (ss_.2 kG_rings 0 = σ kG_rings 0) ∧ (σ kG_corners 0 ≤ ss_.2 kG_corners 0) ∧ (∀ i, ss_.2 kG_ringBegin i = σ_28 kG_ringBegin i)) (fun ss_ => (8200 - ss_.1).toNat) ⟨hσ_28, frσ_28, (by (try dsimp only) <;> first | assumption | omega | ((try simp (disch := omega) only [w32_of, w64_of, w8_of]) <;> first | assumption | omega | (split <;> omega) | (refine And.intro ?_ ?_ <;> split <;> omega)) | omega), (by (try dsimp only) <;> first | assumption | omega | ((try simp (disch := omega) only [w32_of, w64_of, w8_of]) <;> first | assumption | omega | (split <;> omega) | (refine And.intro ?_ ?_ <;> split <;> omega)) | omega), (by (try dsimp only) <;> first | assumption | omega | ((try simp (disch := omega) only [w32_of, w64_of, w8_of]) <;> first | assumption | omega | (split <;> omega) | (refine And.intro ?_ ?_ <;> split <;> omega)) | omega), (by (try dsimp only) <;> (first | (intro i; rfl) | (intro i; rw [← hrb i]; first | exact hz83 i | rfl)))⟩ ?_
      rintro ⟨k_30, σ_31⟩ y27
      try dsimp only at y27 ⊢
      obtain ⟨hσ_31, frσ_31, g24, g25, g26, hrb⟩ := y27
      have c29 := w32_rng k_30
      have c30 := w32_rng (to_0 - from_0)
      refine wp_if (fun c28 => ?_) (fun c28 => ?_)
      · try simp (disch := omega) only [w32_of, w64_of, w8_of, decide_eq_true_eq, decide_eq_false_iff_not, Bool.not_eq_true] at c28
        have c31 := w32_rng (least_25 + k_30)
        have c32 := w32_rng to_0
        refine wp_lt (fun x_41 e_x_41 => ?_)
        try simp (disch := omega) only [w32_of, w64_of, w8_of] at e_x_41
        refine wp_bd (P := fun rr_ => (0 ≤ rr_ ∧ rr_ ≤ 8191)) ?_ ?_
        · have c34 := w32_rng from_0
          have c35 := w32_rng x_41
          refine wp_if (fun c33 => ?_) (fun c33 => ?_)
          · try simp (disch := omega) only [w32_of, w64_of, w8_of, decide_eq_true_eq, decide_eq_false_iff_not, Bool.not_eq_true] at c33
            have c36 := w32_rng (x_41 - 1)
            refine wp_rdI (by (try dsimp only) <;> first | assumption | omega | ((try simp (disch := omega) only [w32_of, w64_of, w8_of]) <;> first | assumption | omega | (split <;> omega) | (refine And.intro ?_ ?_ <;> split <;> omega)) | omega) (by (try dsimp only) <;> first | assumption | omega | ((try simp (disch := omega) only [w32_of, w64_of, w8_of]) <;> first | assumption | omega | (split <;> omega) | (refine And.intro ?_ ?_ <;> split <;> omega)) | omega) (fun x_47 e_x_47 => ?_)
            have b_x_47 : 0 ≤ x_47 ∧ x_47 ≤ 8191 := by rw [e_x_47]; exact ii_kG_path hσ_31 _
            rw [FC_at frσ_31 (c := kG_path) (by first | decide | (rcases hE with rfl | rfl | rfl <;> decide))] at e_x_47
            try simp (disch := omega) only [w32_of, w64_of, w8_of] at e_x_47
            have c37 := ii_kG_path hσ_31 (x_41 - 1)
            have c38 := FC_at frσ_31 (c := kG_path) (by first | decide | (rcases hE with rfl | rfl | rfl <;> decide)) (x_41 - 1)
            have c39 := ii_kG_path hσ (x_41 - 1)
            exact wp_some (by (try dsimp only) <;> first | assumption | omega | ((try simp (disch := omega) only [w32_of, w64_of, w8_of]) <;> first | assumption | omega | (split <;> omega) | (refine And.intro ?_ ?_ <;> split <;> omega)) | omega)
          · try simp (disch := omega) only [w32_of, w64_of, w8_of, decide_eq_true_eq, decide_eq_false_iff_not, Bool.not_eq_true] at c33
            have c40 := w32_rng (to_0 - 1)
            refine wp_rdI (by (try dsimp only) <;> first | assumption | omega | ((try simp (disch := omega) only [w32_of, w64_of, w8_of]) <;> first | assumption | omega | (split <;> omega) | (refine And.intro ?_ ?_ <;> split <;> omega)) | omega) (by (try dsimp only) <;> first | assumption | omega | ((try simp (disch := omega) only [w32_of, w64_of, w8_of]) <;> first | assumption | omega | (split <;> omega) | (refine And.intro ?_ ?_ <;> split <;> omega)) | omega) (fun x_50 e_x_50 => ?_)
            have b_x_50 : 0 ≤ x_50 ∧ x_50 ≤ 8191 := by rw [e_x_50]; exact ii_kG_path hσ_31 _
            rw [FC_at frσ_31 (c := kG_path) (by first | decide | (rcases hE with rfl | rfl | rfl <;> decide))] at e_x_50
            try simp (disch := omega) only [w32_of, w64_of, w8_of] at e_x_50
            have c41 := ii_kG_path hσ_31 (to_0 - 1)
            have c42 := FC_at frσ_31 (c := kG_path) (by first | decide | (rcases hE with rfl | rfl | rfl <;> decide)) (to_0 - 1)
            have c43 := ii_kG_path hσ (to_0 - 1)
            exact wp_some (by (try dsimp only) <;> first | assumption | omega | ((try simp (disch := omega) only [w32_of, w64_of, w8_of]) <;> first | assumption | omega | (split <;> omega) | (refine And.intro ?_ ?_ <;> split <;> omega)) | omega)
        rintro x_53 _ g44
        refine wp_bd (P := fun rr_ => (0 ≤ rr_ ∧ rr_ ≤ 8191)) ?_ ?_
        · have c46 := w32_rng (x_41 + 1)
          refine wp_if (fun c45 => ?_) (fun c45 => ?_)
          · try simp (disch := omega) only [w32_of, w64_of, w8_of, decide_eq_true_eq, decide_eq_false_iff_not, Bool.not_eq_true] at c45
            refine wp_rdI (by (try dsimp only) <;> first | assumption | omega | ((try simp (disch := omega) only [w32_of, w64_of, w8_of]) <;> first | assumption | omega | (split <;> omega) | (refine And.intro ?_ ?_ <;> split <;> omega)) | omega) (by (try dsimp only) <;> first | assumption | omega | ((try simp (disch := omega) only [w32_of, w64_of, w8_of]) <;> first | assumption | omega | (split <;> omega) | (refine And.intro ?_ ?_ <;> split <;> omega)) | omega) (fun x_59 e_x_59 => ?_)
            have b_x_59 : 0 ≤ x_59 ∧ x_59 ≤ 8191 := by rw [e_x_59]; exact ii_kG_path hσ_31 _
            rw [FC_at frσ_31 (c := kG_path) (by first | decide | (rcases hE with rfl | rfl | rfl <;> decide))] at e_x_59
            try simp (disch := omega) only [w32_of, w64_of, w8_of] at e_x_59
            have c47 := ii_kG_path hσ_31 (x_41 + 1)
            have c48 := FC_at frσ_31 (c := kG_path) (by first | decide | (rcases hE with rfl | rfl | rfl <;> decide)) (x_41 + 1)
            have c49 := ii_kG_path hσ (x_41 + 1)
            exact wp_some (by (try dsimp only) <;> first | assumption | omega | ((try simp (disch := omega) only [w32_of, w64_of, w8_of]) <;> first | assumption | omega | (split <;> omega) | (refine And.intro ?_ ?_ <;> split <;> omega)) | omega)
          · try simp (disch := omega) only [w32_of, w64_of, w8_of, decide_eq_true_eq, decide_eq_false_iff_not, Bool.not_eq_true] at c45
            have c50 := w32_rng from_0
            refine wp_rdI (by (try dsimp only) <;> first | assumption | omega | ((try simp (disch := omega) only [w32_of, w64_of, w8_of]) <;> first | assumption | omega | (split <;> omega) | (refine And.intro ?_ ?_ <;> split <;> omega)) | omega) (by (try dsimp only) <;> first | assumption | omega | ((try simp (disch := omega) only [w32_of, w64_of, w8_of]) <;> first | assumption | omega | (split <;> omega) | (refine And.intro ?_ ?_ <;> split <;> omega)) | omega) (fun x_62 e_x_62 => ?_)
            have b_x_62 : 0 ≤ x_62 ∧ x_62 ≤ 8191 := by rw [e_x_62]; exact ii_kG_path hσ_31 _
            rw [FC_at frσ_31 (c := kG_path) (by first | decide | (rcases hE with rfl | rfl | rfl <;> decide))] at e_x_62
            try simp (disch := omega) only [w32_of, w64_of, w8_of] at e_x_62
            have c51 := ii_kG_path hσ_31 from_0
            have c52 := FC_at frσ_31 (c := kG_path) (by first | decide | (rcases hE with rfl | rfl | rfl <;> decide)) from_0
            have c53 := ii_kG_path hσ from_0
            exact wp_some (by (try dsimp only) <;> first | assumption | omega | ((try simp (disch := omega) only [w32_of, w64_of, w8_of]) <;> first | assumption | omega | (split <;> omega) | (refine And.intro ?_ ?_ <;> split <;> omega)) | omega)
        rintro x_65 _ g54
        refine wp_bx (P := fun rr_ => II rr_ ∧ FC [kG_corner, kG_corners, kG_ringArea, kG_ringBegin, kG_rings] [] σ rr_ ∧ (rr_ kG_rings 0 = σ_31 kG_rings 0) ∧ (σ_31 kG_corners 0 ≤ rr_ kG_corners 0) ∧ (∀ i, rr_ kG_ringBegin i = σ_31 kG_ringBegin i)) ?_ ?_
        · have c55 := w32_rng x_41
          refine wp_rdI (by (try dsimp only) <;> first | assumption | omega | ((try simp (disch := omega) only [w32_of, w64_of, w8_of]) <;> first | assumption | omega | (split <;> omega) | (refine And.intro ?_ ?_ <;> split <;> omega)) | omega) (by (try dsimp only) <;> first | assumption | omega | ((try simp (disch := omega) only [w32_of, w64_of, w8_of]) <;> first | assumption | omega | (split <;> omega) | (refine And.intro ?_ ?_ <;> split <;> omega)) | omega) (fun x_70 e_x_70 => ?_)
          have b_x_70 : 0 ≤ x_70 ∧ x_70 ≤ 8191 := by rw [e_x_70]; exact ii_kG_path hσ_31 _
          rw [FC_at frσ_31 (c := kG_path) (by first | decide | (rcases hE with rfl | rfl | rfl <;> decide))] at e_x_70
          try simp (disch := omega) only [w32_of, w64_of, w8_of] at e_x_70
          have c56 := ii_kG_path hσ_31 x_41
          have c57 := FC_at frσ_31 (c := kG_path) (by first | decide | (rcases hE with rfl | rfl | rfl <;> decide)) x_41
          have c58 := ii_kG_path hσ x_41
          refine wp_bd (s_G_turnAt (σ := σ_31) (a_0 := x_53) (b_0 := x_70) (c_0 := x_65) hσ_31 (by (try dsimp only) <;> first | assumption | omega | ((try simp (disch := omega) only [w32_of, w64_of, w8_of]) <;> first | assumption | omega | (split <;> omega) | (refine And.intro ?_ ?_ <;> split <;> omega)) | omega) (by (try dsimp only) <;> first | assumption | omega | ((try simp (disch := omega) only [w32_of, w64_of, w8_of]) <;> first | assumption | omega | (split <;> omega) | (refine And.intro ?_ ?_ <;> split <;> omega)) | omega) (by (try dsimp only) <;> first | assumption | omega | ((try simp (disch := omega) only [w32_of, w64_of, w8_of]) <;> first | assumption | omega | (split <;> omega) | (refine And.intro ?_ ?_ <;> split <;> omega)) | omega)) ?_
          rintro x_73 - g59
          try simp (disch := omega) only [w32_of, w64_of, w8_of] at g59
          have c61 := w32_rng x_73
          refine wp_if (fun c60 => ?_) (fun c60 => ?_)
          · try simp (disch := omega) only [w32_of, w64_of, w8_of, decide_eq_true_eq, decide_eq_false_iff_not, Bool.not_eq_true] at c60
            have c63 := ii_kG_corners hσ_31 0
            have c64 := w32_rng (σ_31 kG_corners 0)
            refine wp_if (fun c62 => ?_) (fun c62 => ?_)
            · try simp (disch := omega) only [w32_of, w64_of, w8_of, decide_eq_true_eq, decide_eq_false_iff_not, Bool.not_eq_true] at c62
              exact wp_some (x_inr (x_inr (x_inr ⟨hσ_31, frσ_31, (fun q => (by cases q))⟩)))
            · try simp (disch := omega) only [w32_of, w64_of, w8_of, decide_eq_true_eq, decide_eq_false_iff_not, Bool.not_eq_true] at c62
              refine wp_rdI (by (try dsimp only) <;> first | assumption | omega | ((try simp (disch := omega) only [w32_of, w64_of, w8_of]) <;> first | assumption | omega | (split <;> omega) | (refine And.intro ?_ ?_ <;> split <;> omega)) | omega) (by (try dsimp only) <;> first | assumption | omega | ((try simp (disch := omega) only [w32_of, w64_of, w8_of]) <;> first | assumption | omega | (split <;> omega) | (refine And.intro ?_ ?_ <;> split <;> omega)) | omega) (fun x_76 e_x_76 => ?_)
              have b_x_76 : 0 ≤ x_76 ∧ x_76 ≤ 8191 := by rw [e_x_76]; exact ii_kG_path hσ_31 _
              rw [FC_at frσ_31 (c := kG_path) (by first | decide | (rcases hE with rfl | rfl | rfl <;> decide))] at e_x_76
              try simp (disch := omega) only [w32_of, w64_of, w8_of] at e_x_76
              refine wp_waI hσ_31 b_kG_corner (by (try dsimp only) <;> first | assumption | omega | ((try simp (disch := omega) only [w32_of, w64_of, w8_of]) <;> first | assumption | omega | (split <;> omega) | (refine And.intro ?_ ?_ <;> split <;> omega)) | omega) (by (try dsimp only) <;> first | assumption | omega | ((try simp (disch := omega) only [w32_of, w64_of, w8_of]) <;> first | assumption | omega | (split <;> omega) | (refine And.intro ?_ ?_ <;> split <;> omega)) | omega) (by (try dsimp only) <;> first | assumption | omega | ((try simp (disch := omega) only [w32_of, w64_of, w8_of]) <;> first | assumption | omega | (split <;> omega) | (refine And.intro ?_ ?_ <;> split <;> omega)) | omega) (fun σ_78 hσ_78 eσ_78 => ?_)
              try simp (disch := omega) only [w32_of, w64_of, w8_of] at eσ_78
              have flσ_78 := FC_sg eσ_78 (by first | decide | (rcases hE with rfl | rfl | rfl <;> decide))
              have frσ_78 : FC [kG_corner, kG_corners, kG_ringArea, kG_ringBegin, kG_rings] [] σ σ_78 := FC_tr frσ_31 flσ_78 (by first | decide | (rcases hE with rfl | rfl | rfl <;> decide)) (by first | decide | (rcases hE with rfl | rfl | rfl <;> decide)) (by simp) (by simp)
              have c65 := ii_kG_corners hσ_78 0
              have c66 := FC_at flσ_78 (c := kG_corners) (by first | decide | (rcases hE with rfl | rfl | rfl <;> decide)) 0
              refine wp_wfI hσ_78 b_kG_corners (by (try dsimp only) <;> first | assumption | omega | ((try simp (disch := omega) only [w32_of, w64_of, w8_of]) <;> first | assumption | omega | (split <;> omega) | (refine And.intro ?_ ?_ <;> split <;> omega)) | omega) (fun σ_80 hσ_80 eσ_80 => ?_)
              try simp (disch := omega) only [w32_of, w64_of, w8_of] at eσ_80
              have flσ_80 := FC_sg eσ_80 (by first | decide | (rcases hE with rfl | rfl | rfl <;> decide))
              have frσ_80 : FC [kG_corner, kG_corners, kG_ringArea, kG_ringBegin, kG_rings] [] σ σ_80 := FC_tr frσ_78 flσ_80 (by first | decide | (rcases hE with rfl | rfl | rfl <;> decide)) (by first | decide | (rcases hE with rfl | rfl | rfl <;> decide)) (by simp) (by simp)
              have c67 := ii_kG_rings hσ_80 0
              have c68 := FC_at flσ_80 (c := kG_rings) (by first | decide | (rcases hE with rfl | rfl | rfl <;> decide)) 0
              have c69 := ii_kG_rings hσ_78 0
              have c70 := FC_at flσ_78 (c := kG_rings) (by first | decide | (rcases hE with rfl | rfl | rfl <;> decide)) 0
              have c71 := ii_kG_rings hσ_31 0
              have c72 := ii_kG_corners hσ_80 0
              have c73 := sg_val eσ_80
              exact wp_some (x_inl ⟨hσ_80, frσ_80, (by (try dsimp only) <;> first | assumption | omega | ((try simp (disch := omega) only [w32_of, w64_of, w8_of]) <;> first | assumption | omega | (split <;> omega) | (refine And.intro ?_ ?_ <;> split <;> omega)) | omega), (by (try dsimp only) <;> first | assumption | omega | ((try simp (disch := omega) only [w32_of, w64_of, w8_of]) <;> first | assumption | omega | (split <;> omega) | (refine And.intro ?_ ?_ <;> split <;> omega)) | omega), (by (try dsimp only) <;> (intro i; first | rfl | rw [eσ_80, sg_nc (by decide), eσ_78, sg_nc (by decide)]))⟩)
          · try simp (disch := omega) only [w32_of, w64_of, w8_of, decide_eq_true_eq, decide_eq_false_iff_not, Bool.not_eq_true] at c60
            have c74 := ii_kG_rings hσ_31 0
            have c75 := ii_kG_corners hσ_31 0
            exact wp_some (x_inl ⟨hσ_31, frσ_31, (by (try dsimp only) <;> first | assumption | omega | ((try simp (disch := omega) only [w32_of, w64_of, w8_of]) <;> first | assumption | omega | (split <;> omega) | (refine And.intro ?_ ?_ <;> split <;> omega)) | omega), (by (try dsimp only) <;> first | assumption | omega | ((try simp (disch := omega) only [w32_of, w64_of, w8_of]) <;> first | assumption | omega | (split <;> omega) | (refine And.intro ?_ ?_ <;> split <;> omega)) | omega), (by (try dsimp only) <;> (intro i; first | rfl | rw [eσ_80, sg_nc (by decide), eσ_78, sg_nc (by decide)]))⟩)
        rintro σ_83 ⟨hσ_83, frσ_83, g76, g77, hz83⟩
        have c78 := ii_kG_rings hσ_83 0
        have c79 := ii_kG_corners hσ_83 0
        exact wp_some (x_inl ⟨⟨hσ_83, frσ_83, (by (try dsimp only) <;> first | assumption | omega | ((try simp (disch := omega) only [w32_of, w64_of, w8_of]) <;> first | assumption | omega | (split <;> omega) | (refine And.intro ?_ ?_ <;> split <;> omega)) | omega), (by (try dsimp only) <;> first | assumption | omega | ((try simp (disch := omega) only [w32_of, w64_of, w8_of]) <;> first | assumption | omega | (split <;> omega) | (refine And.intro ?_ ?_ <;> split <;> omega)) | omega), (by (try dsimp only) <;> first | assumption | omega | ((try simp (disch := omega) only [w32_of, w64_of, w8_of]) <;> first | assumption | omega | (split <;> omega) | (refine And.intro ?_ ?_ <;> split <;> omega)) | omega), (by (try dsimp only) <;> (first | (intro i; rfl) | (intro i; rw [← hrb i]; first | exact hz83 i | rfl)))⟩, (by (try dsimp only) <;> first | assumption | omega | ((try simp (disch := omega) only [w32_of, w64_of, w8_of]) <;> first | assumption | omega | (split <;> omega) | (refine And.intro ?_ ?_ <;> split <;> omega)) | omega)⟩)
      · try simp (disch := omega) only [w32_of, w64_of, w8_of, decide_eq_true_eq, decide_eq_false_iff_not, Bool.not_eq_true] at c28
        have c80 := ii_kG_rings hσ_31 0
        have c81 := ii_kG_corners hσ_31 0
        exact wp_some (x_inr (x_inl ⟨hσ_31, frσ_31, (by (try dsimp only) <;> first | assumption | omega | ((try simp (disch := omega) only [w32_of, w64_of, w8_of]) <;> first | assumption | omega | (split <;> omega) | (refine And.intro ?_ ?_ <;> split <;> omega)) | omega), (by (try dsimp only) <;> first | assumption | omega | ((try simp (disch := omega) only [w32_of, w64_of, w8_of]) <;> first | assumption | omega | (split <;> omega) | (refine And.intro ?_ ?_ <;> split <;> omega)) | omega), (by (try dsimp only) <;> (exact hrb))⟩))
    rintro ⟨k_96, σ_97⟩ y84
    try dsimp only at y84 ⊢
    obtain ⟨hσ_97, frσ_97, g82, g83, hrb⟩ := y84
    have hrb0 := hrb (σ kG_rings 0)
    rw [eσ_28, sg_at] at hrb0
    have c85 := ii_kG_rings hσ_97 0
    have c86 := w32_rng (σ_97 kG_rings 0)
    refine wp_rdI (by (try dsimp only) <;> first | assumption | omega | ((try simp (disch := omega) only [w32_of, w64_of, w8_of]) <;> first | assumption | omega | (split <;> omega) | (refine And.intro ?_ ?_ <;> split <;> omega)) | omega) (by (try dsimp only) <;> first | assumption | omega | ((try simp (disch := omega) only [w32_of, w64_of, w8_of]) <;> first | assumption | omega | (split <;> omega) | (refine And.intro ?_ ?_ <;> split <;> omega)) | omega) (fun x_98 e_x_98 => ?_)
    have b_x_98 : 0 ≤ x_98 ∧ x_98 ≤ 2048 := by rw [e_x_98]; exact ii_kG_ringBegin hσ_97 _
    try simp (disch := omega) only [w32_of, w64_of, w8_of] at e_x_98
    have c87 := ii_kG_ringBegin hσ_97 (σ_97 kG_rings 0)
    rw [show σ_97 kG_rings 0 = σ kG_rings 0 by omega] at e_x_98
    have c88 := ii_kG_corners hσ_97 0
    refine wp_bd (s_G_twiceAround (σ := σ_97) (from_0 := x_98) (to_0 := (σ_97 kG_corners 0)) hσ_97 (by (try dsimp only) <;> first | assumption | omega | ((try simp (disch := omega) only [w32_of, w64_of, w8_of]) <;> first | assumption | omega | (split <;> omega) | (refine And.intro ?_ ?_ <;> split <;> omega)) | omega)) ?_
    rintro x_101 - -
    refine wp_waN hσ_97 b_kG_ringArea (by (try dsimp only) <;> first | assumption | omega | ((try simp (disch := omega) only [w32_of, w64_of, w8_of]) <;> first | assumption | omega | (split <;> omega) | (refine And.intro ?_ ?_ <;> split <;> omega)) | omega) (by (try dsimp only) <;> first | assumption | omega | ((try simp (disch := omega) only [w32_of, w64_of, w8_of]) <;> first | assumption | omega | (split <;> omega) | (refine And.intro ?_ ?_ <;> split <;> omega)) | omega) (fun σ_102 hσ_102 eσ_102 => ?_)
    try simp (disch := omega) only [w32_of, w64_of, w8_of] at eσ_102
    have flσ_102 := FC_sg eσ_102 (by first | decide | (rcases hE with rfl | rfl | rfl <;> decide))
    have frσ_102 : FC [kG_corner, kG_corners, kG_ringArea, kG_ringBegin, kG_rings] [] σ σ_102 := FC_tr frσ_97 flσ_102 (by first | decide | (rcases hE with rfl | rfl | rfl <;> decide)) (by first | decide | (rcases hE with rfl | rfl | rfl <;> decide)) (by simp) (by simp)
    have c90 := ii_kG_rings hσ_102 0
    have c91 := FC_at flσ_102 (c := kG_rings) (by first | decide | (rcases hE with rfl | rfl | rfl <;> decide)) 0
    refine wp_wfI hσ_102 b_kG_rings (by (try dsimp only) <;> first | assumption | omega | ((try simp (disch := omega) only [w32_of, w64_of, w8_of]) <;> first | assumption | omega | (split <;> omega) | (refine And.intro ?_ ?_ <;> split <;> omega)) | omega) (fun σ_104 hσ_104 eσ_104 => ?_)
    try simp (disch := omega) only [w32_of, w64_of, w8_of] at eσ_104
    have flσ_104 := FC_sg eσ_104 (by first | decide | (rcases hE with rfl | rfl | rfl <;> decide))
    have frσ_104 : FC [kG_corner, kG_corners, kG_ringArea, kG_ringBegin, kG_rings] [] σ σ_104 := FC_tr frσ_102 flσ_104 (by first | decide | (rcases hE with rfl | rfl | rfl <;> decide)) (by first | decide | (rcases hE with rfl | rfl | rfl <;> decide)) (by simp) (by simp)
    have c92 := ii_kG_corners hσ_104 0
    have c93 := FC_at flσ_104 (c := kG_corners) (by first | decide | (rcases hE with rfl | rfl | rfl <;> decide)) 0
    have c94 := ii_kG_corners hσ_102 0
    have c95 := FC_at flσ_102 (c := kG_corners) (by first | decide | (rcases hE with rfl | rfl | rfl <;> decide)) 0
    have c96 := ii_kG_rings hσ_104 0
    have c97 := sg_val eσ_104
    have c98 := w32_rng (σ_104 kG_rings 0)
    refine wp_waI hσ_104 b_kG_ringBegin (by (try dsimp only) <;> first | assumption | omega | ((try simp (disch := omega) only [w32_of, w64_of, w8_of]) <;> first | assumption | omega | (split <;> omega) | (refine And.intro ?_ ?_ <;> split <;> omega)) | omega) (by (try dsimp only) <;> first | assumption | omega | ((try simp (disch := omega) only [w32_of, w64_of, w8_of]) <;> first | assumption | omega | (split <;> omega) | (refine And.intro ?_ ?_ <;> split <;> omega)) | omega) (by (try dsimp only) <;> first | assumption | omega | ((try simp (disch := omega) only [w32_of, w64_of, w8_of]) <;> first | assumption | omega | (split <;> omega) | (refine And.intro ?_ ?_ <;> split <;> omega)) | omega) (fun σ_105 hσ_105 eσ_105 => ?_)
    try simp (disch := omega) only [w32_of, w64_of, w8_of] at eσ_105
    have flσ_105 := FC_sg eσ_105 (by first | decide | (rcases hE with rfl | rfl | rfl <;> decide))
    have frσ_105 : FC [kG_corner, kG_corners, kG_ringArea, kG_ringBegin, kG_rings] [] σ σ_105 := FC_tr frσ_104 flσ_105 (by first | decide | (rcases hE with rfl | rfl | rfl <;> decide)) (by first | decide | (rcases hE with rfl | rfl | rfl <;> decide)) (by simp) (by simp)
    have hRG := RGs_take w0 (by omega) (by omega) eσ_28 hrb eσ_102 eσ_104 eσ_105 (by omega) (by omega)
    have zb1 := ii_kG_corners hσ_105 0
    have zb2 := ii_kG_rings hσ_105 0
    have c99 := ii_kG_corners hσ_105 0
    have c100 := FC_at flσ_105 (c := kG_corners) (by first | decide | (rcases hE with rfl | rfl | rfl <;> decide)) 0
    have c101 := ii_kG_rings hσ_105 0
    have c102 := FC_at flσ_105 (c := kG_rings) (by first | decide | (rcases hE with rfl | rfl | rfl <;> decide)) 0
    exact wp_some ⟨hσ_105, frσ_105, (by (try dsimp only) <;> (first | (intro q9; exact absurd q9 (by decide)) | (intro q9; have q8 := of_decide_eq_true q9; rw [w32_of (by omega) (by omega)] at q8; exact hRG q8)))⟩
theorem s_G_trace {σ : SG} {first_0 : Int} (hσ : II σ) (w0 : RGs σ) (w1 : 0 ≤ first_0 ∧ first_0 ≤ 16383) : wp_ (fG_trace σ first_0) (fun zz_ => II zz_.2 ∧ FC [kG_corner, kG_corners, kG_isBoundary, kG_onPath, kG_path, kG_ringArea, kG_ringBegin, kG_rings] [] σ zz_.2 ∧ ((zz_.1 = true) → (RGs zz_.2))) := by
  unfold fG_trace
  refine wp_bd (s_G_startOf (σ := σ) (piece_0 := first_0) hσ (by (try dsimp only) <;> first | assumption | omega | ((try simp (disch := omega) only [w32_of, w64_of, w8_of]) <;> first | assumption | omega | (split <;> omega) | (refine And.intro ?_ ?_ <;> split <;> omega)) | omega)) ?_
  rintro x_2 - g1
  try simp (disch := omega) only [w32_of, w64_of, w8_of] at g1
  refine wp_waI hσ b_kG_path (by (try dsimp only) <;> first | assumption | omega | ((try simp (disch := omega) only [w32_of, w64_of, w8_of]) <;> first | assumption | omega | (split <;> omega) | (refine And.intro ?_ ?_ <;> split <;> omega)) | omega) (by (try dsimp only) <;> first | assumption | omega | ((try simp (disch := omega) only [w32_of, w64_of, w8_of]) <;> first | assumption | omega | (split <;> omega) | (refine And.intro ?_ ?_ <;> split <;> omega)) | omega) (by (try dsimp only) <;> first | assumption | omega | ((try simp (disch := omega) only [w32_of, w64_of, w8_of]) <;> first | assumption | omega | (split <;> omega) | (refine And.intro ?_ ?_ <;> split <;> omega)) | omega) (fun σ_3 hσ_3 eσ_3 => ?_)
  try simp (disch := omega) only [w32_of, w64_of, w8_of] at eσ_3
  have flσ_3 := FC_sg eσ_3 (by first | decide | (rcases hE with rfl | rfl | rfl <;> decide))
  have frσ_3 : FC [kG_corner, kG_corners, kG_isBoundary, kG_onPath, kG_path, kG_ringArea, kG_ringBegin, kG_rings] [] σ σ_3 := FC_le flσ_3 (by first | decide | (rcases hE with rfl | rfl | rfl <;> decide)) (by simp)
  refine wp_rdI (by (try dsimp only) <;> first | assumption | omega | ((try simp (disch := omega) only [w32_of, w64_of, w8_of]) <;> first | assumption | omega | (split <;> omega) | (refine And.intro ?_ ?_ <;> split <;> omega)) | omega) (by (try dsimp only) <;> first | assumption | omega | ((try simp (disch := omega) only [w32_of, w64_of, w8_of]) <;> first | assumption | omega | (split <;> omega) | (refine And.intro ?_ ?_ <;> split <;> omega)) | omega) (fun x_5 e_x_5 => ?_)
  have b_x_5 : 0 ≤ x_5 ∧ x_5 ≤ 8191 := by rw [e_x_5]; exact ii_kG_path hσ_3 _
  try simp (disch := omega) only [w32_of, w64_of, w8_of] at e_x_5
  have c2 := ii_kG_path hσ_3 0
  have c3 := sg_val eσ_3
  have c4 := w32_rng x_5
  refine wp_waI hσ_3 b_kG_onPath (by (try dsimp only) <;> first | assumption | omega | ((try simp (disch := omega) only [w32_of, w64_of, w8_of]) <;> first | assumption | omega | (split <;> omega) | (refine And.intro ?_ ?_ <;> split <;> omega)) | omega) (by (try dsimp only) <;> first | assumption | omega | ((try simp (disch := omega) only [w32_of, w64_of, w8_of]) <;> first | assumption | omega | (split <;> omega) | (refine And.intro ?_ ?_ <;> split <;> omega)) | omega) (by (try dsimp only) <;> first | assumption | omega | ((try simp (disch := omega) only [w32_of, w64_of, w8_of]) <;> first | assumption | omega | (split <;> omega) | (refine And.intro ?_ ?_ <;> split <;> omega)) | omega) (fun σ_7 hσ_7 eσ_7 => ?_)
  try simp (disch := omega) only [w32_of, w64_of, w8_of] at eσ_7
  have flσ_7 := FC_sg eσ_7 (by first | decide | (rcases hE with rfl | rfl | rfl <;> decide))
  have frσ_7 : FC [kG_corner, kG_corners, kG_isBoundary, kG_onPath, kG_path, kG_ringArea, kG_ringBegin, kG_rings] [] σ σ_7 := FC_tr frσ_3 flσ_7 (by first | decide | (rcases hE with rfl | rfl | rfl <;> decide)) (by first | decide | (rcases hE with rfl | rfl | rfl <;> decide)) (by simp) (by simp)
  refine wp_bx (P := fun rr_ => II rr_.2.2.2 ∧ FC [kG_corner, kG_corners, kG_isBoundary, kG_onPath, kG_path, kG_ringArea, kG_ringBegin, kG_rings] [] σ rr_.2.2.2 ∧ (0 ≤ rr_.1 ∧ rr_.1 ≤ 8193) ∧ (RGs rr_.2.2.2)) ?_ ?_
  · refine wp_whl (fun ss_ => II ss_.2.2.2 ∧ FC [kG_corner, kG_corners, kG_isBoundary, kG_onPath, kG_path, kG_ringArea, kG_ringBegin, kG_rings] [] σ ss_.2.2.2 ∧ (0 ≤ ss_.1 ∧ ss_.1 ≤ 8193) ∧ (-1 ≤ ss_.2.1 ∧ ss_.2.1 ≤ 16383) ∧ (0 ≤ ss_.2.2.1 ∧ ss_.2.2.1 ≤ 16384) ∧ (RGs ss_.2.2.2)) (fun ss_ => (16385 - ss_.2.2.1).toNat) ⟨hσ_7, frσ_7, (by (try dsimp only) <;> first | assumption | omega | ((try simp (disch := omega) only [w32_of, w64_of, w8_of]) <;> first | assumption | omega | (split <;> omega) | (refine And.intro ?_ ?_ <;> split <;> omega)) | omega), (by (try dsimp only) <;> first | assumption | omega | ((try simp (disch := omega) only [w32_of, w64_of, w8_of]) <;> first | assumption | omega | (split <;> omega) | (refine And.intro ?_ ?_ <;> split <;> omega)) | omega), (by (try dsimp only) <;> first | assumption | omega | ((try simp (disch := omega) only [w32_of, w64_of, w8_of]) <;> first | assumption | omega | (split <;> omega) | (refine And.intro ?_ ?_ <;> split <;> omega)) | omega), (by (try dsimp only) <;> (first | exact RGs_f flσ_7 (by decide) (RGs_f flσ_3 (by decide) w0) | exact hr88))⟩ ?_
    rintro ⟨size_9, piece_10, step_11, σ_12⟩ y8
    try dsimp only at y8 ⊢
    obtain ⟨hσ_12, frσ_12, g5, g6, g7, hr12⟩ := y8
    have c10 := w32_rng step_11
    have c11 := ii_kN_pieces hσ_12 0
    have c12 := FC_at frσ_12 (c := kN_pieces) (by first | decide | (rcases hE with rfl | rfl | rfl <;> decide)) 0
    have c13 := ii_kN_pieces hσ 0
    have c14 := w32_rng (σ_12 kN_pieces 0)
    refine wp_if (fun c9 => ?_) (fun c9 => ?_)
    · try simp (disch := omega) only [w32_of, w64_of, w8_of, decide_eq_true_eq, decide_eq_false_iff_not, Bool.not_eq_true] at c9
      have c16 := w32_rng piece_10
      refine wp_if (fun c15 => ?_) (fun c15 => ?_)
      · try simp (disch := omega) only [w32_of, w64_of, w8_of, decide_eq_true_eq, decide_eq_false_iff_not, Bool.not_eq_true] at c15
        refine wp_rdI (by (try dsimp only) <;> first | assumption | omega | ((try simp (disch := omega) only [w32_of, w64_of, w8_of]) <;> first | assumption | omega | (split <;> omega) | (refine And.intro ?_ ?_ <;> split <;> omega)) | omega) (by (try dsimp only) <;> first | assumption | omega | ((try simp (disch := omega) only [w32_of, w64_of, w8_of]) <;> first | assumption | omega | (split <;> omega) | (refine And.intro ?_ ?_ <;> split <;> omega)) | omega) (fun x_32 e_x_32 => ?_)
        have b_x_32 : 0 ≤ x_32 ∧ x_32 ≤ 1 := by rw [e_x_32]; exact ii_kG_isBoundary hσ_12 _
        try simp (disch := omega) only [w32_of, w64_of, w8_of] at e_x_32
        have c17 := ii_kG_isBoundary hσ_12 piece_10
        refine wp_if (fun c18 => ?_) (fun c18 => ?_)
        · try simp (disch := omega) only [w32_of, w64_of, w8_of, decide_eq_true_eq, decide_eq_false_iff_not, Bool.not_eq_true] at c18
          have c19 := bz_bd false
          try simp (disch := omega) only [w32_of, w64_of, w8_of] at c19
          refine wp_waI hσ_12 b_kG_isBoundary (by (try dsimp only) <;> first | assumption | omega | ((try simp (disch := omega) only [w32_of, w64_of, w8_of]) <;> first | assumption | omega | (split <;> omega) | (refine And.intro ?_ ?_ <;> split <;> omega)) | omega) (by (try dsimp only) <;> first | assumption | omega | ((try simp (disch := omega) only [w32_of, w64_of, w8_of]) <;> first | assumption | omega | (split <;> omega) | (refine And.intro ?_ ?_ <;> split <;> omega)) | omega) (by (try dsimp only) <;> first | assumption | omega | ((try simp (disch := omega) only [w32_of, w64_of, w8_of]) <;> first | assumption | omega | (split <;> omega) | (refine And.intro ?_ ?_ <;> split <;> omega)) | omega) (fun σ_35 hσ_35 eσ_35 => ?_)
          try simp (disch := omega) only [w32_of, w64_of, w8_of] at eσ_35
          have flσ_35 := FC_sg eσ_35 (by first | decide | (rcases hE with rfl | rfl | rfl <;> decide))
          have frσ_35 : FC [kG_corner, kG_corners, kG_isBoundary, kG_onPath, kG_path, kG_ringArea, kG_ringBegin, kG_rings] [] σ σ_35 := FC_tr frσ_12 flσ_35 (by first | decide | (rcases hE with rfl | rfl | rfl <;> decide)) (by first | decide | (rcases hE with rfl | rfl | rfl <;> decide)) (by simp) (by simp)
          refine wp_bd (s_G_finishOf (σ := σ_35) (piece_0 := piece_10) hσ_35 (by (try dsimp only) <;> first | assumption | omega | ((try simp (disch := omega) only [w32_of, w64_of, w8_of]) <;> first | assumption | omega | (split <;> omega) | (refine And.intro ?_ ?_ <;> split <;> omega)) | omega)) ?_
          rintro x_38 - g20
          try simp (disch := omega) only [w32_of, w64_of, w8_of] at g20
          refine wp_bx (P := fun rr_ => II rr_.2 ∧ FC [kG_corner, kG_corners, kG_isBoundary, kG_onPath, kG_path, kG_ringArea, kG_ringBegin, kG_rings] [] σ rr_.2 ∧ (0 ≤ rr_.1 ∧ rr_.1 ≤ 8193) ∧ (RGs rr_.2)) ?_ ?_
          · have c21 := w32_rng x_38
            refine wp_rdI (by (try dsimp only) <;> first | assumption | omega | ((try simp (disch := omega) only [w32_of, w64_of, w8_of]) <;> first | assumption | omega | (split <;> omega) | (refine And.intro ?_ ?_ <;> split <;> omega)) | omega) (by (try dsimp only) <;> first | assumption | omega | ((try simp (disch := omega) only [w32_of, w64_of, w8_of]) <;> first | assumption | omega | (split <;> omega) | (refine And.intro ?_ ?_ <;> split <;> omega)) | omega) (fun x_43 e_x_43 => ?_)
            have b_x_43 : 0 ≤ x_43 ∧ x_43 ≤ 8193 := by rw [e_x_43]; exact ii_kG_onPath hσ_35 _
            try simp (disch := omega) only [w32_of, w64_of, w8_of] at e_x_43
            have c22 := ii_kG_onPath hσ_35 x_38
            have c23 := FC_at flσ_35 (c := kG_onPath) (by first | decide | (rcases hE with rfl | rfl | rfl <;> decide)) x_38
            have c24 := ii_kG_onPath hσ_12 x_38
            have c26 := w32_rng x_43
            refine wp_if (fun c25 => ?_) (fun c25 => ?_)
            · try simp (disch := omega) only [w32_of, w64_of, w8_of, decide_eq_true_eq, decide_eq_false_iff_not, Bool.not_eq_true] at c25
              refine wp_rdI (by (try dsimp only) <;> first | assumption | omega | ((try simp (disch := omega) only [w32_of, w64_of, w8_of]) <;> first | assumption | omega | (split <;> omega) | (refine And.intro ?_ ?_ <;> split <;> omega)) | omega) (by (try dsimp only) <;> first | assumption | omega | ((try simp (disch := omega) only [w32_of, w64_of, w8_of]) <;> first | assumption | omega | (split <;> omega) | (refine And.intro ?_ ?_ <;> split <;> omega)) | omega) (fun x_46 e_x_46 => ?_)
              have b_x_46 : 0 ≤ x_46 ∧ x_46 ≤ 8193 := by rw [e_x_46]; exact ii_kG_onPath hσ_35 _
              try simp (disch := omega) only [w32_of, w64_of, w8_of] at e_x_46
              refine wp_bd (s_G_takeRing (σ := σ_35) (from_0 := (x_46 - 1)) (to_0 := size_9) hσ_35 (by exact RGs_f flσ_35 (by decide) hr12) (by (try dsimp only) <;> first | assumption | omega | ((try simp (disch := omega) only [w32_of, w64_of, w8_of]) <;> first | assumption | omega | (split <;> omega) | (refine And.intro ?_ ?_ <;> split <;> omega)) | omega) (by (try dsimp only) <;> first | assumption | omega | ((try simp (disch := omega) only [w32_of, w64_of, w8_of]) <;> first | assumption | omega | (split <;> omega) | (refine And.intro ?_ ?_ <;> split <;> omega)) | omega)) ?_
              rintro ⟨x_50, σ_49⟩ - y27
              try dsimp only at y27 ⊢
              obtain ⟨hσ_49, flσ_49, htr⟩ := y27
              have frσ_49 : FC [kG_corner, kG_corners, kG_isBoundary, kG_onPath, kG_path, kG_ringArea, kG_ringBegin, kG_rings] [] σ σ_49 := FC_tr frσ_35 flσ_49 (by first | decide | (rcases hE with rfl | rfl | rfl <;> decide)) (by first | decide | (rcases hE with rfl | rfl | rfl <;> decide)) (by simp) (by simp)
              try simp (disch := omega) only [w32_of, w64_of, w8_of] at htr
              refine wp_if (fun c28 => ?_) (fun c28 => ?_)
              · have k29 := htr c28
                try simp (disch := omega) only [w32_of, w64_of, w8_of] at k29
                try simp (disch := omega) only [w32_of, w64_of, w8_of, decide_eq_true_eq, decide_eq_false_iff_not, Bool.not_eq_true] at c28
                refine wp_bd (P := fun rr_ => II rr_.2 ∧ FC [kG_corner, kG_corners, kG_isBoundary, kG_onPath, kG_path, kG_ringArea, kG_ringBegin, kG_rings] [] σ rr_.2 ∧ (RGs rr_.2)) ?_ ?_
                · refine wp_whl (fun ss_ => II ss_.2 ∧ FC [kG_corner, kG_corners, kG_isBoundary, kG_onPath, kG_path, kG_ringArea, kG_ringBegin, kG_rings] [] σ ss_.2 ∧ (0 ≤ ss_.1 ∧ ss_.1 ≤ 8194) ∧ (RGs ss_.2)) (fun ss_ => (8195 - ss_.1).toNat) ⟨hσ_49, frσ_49, (by (try dsimp only) <;> first | assumption | omega | ((try simp (disch := omega) only [w32_of, w64_of, w8_of]) <;> first | assumption | omega | (split <;> omega) | (refine And.intro ?_ ?_ <;> split <;> omega)) | omega), (by (try dsimp only) <;> (first | exact htr (by assumption) | exact RGs_f flσ_64 (by decide) hr53))⟩ ?_
                  rintro ⟨k_52, σ_53⟩ y31
                  try dsimp only at y31 ⊢
                  obtain ⟨hσ_53, frσ_53, g30, hr53⟩ := y31
                  have c33 := w32_rng k_52
                  have c34 := w32_rng size_9
                  refine wp_if (fun c32 => ?_) (fun c32 => ?_)
                  · try simp (disch := omega) only [w32_of, w64_of, w8_of, decide_eq_true_eq, decide_eq_false_iff_not, Bool.not_eq_true] at c32
                    refine wp_rdI (by (try dsimp only) <;> first | assumption | omega | ((try simp (disch := omega) only [w32_of, w64_of, w8_of]) <;> first | assumption | omega | (split <;> omega) | (refine And.intro ?_ ?_ <;> split <;> omega)) | omega) (by (try dsimp only) <;> first | assumption | omega | ((try simp (disch := omega) only [w32_of, w64_of, w8_of]) <;> first | assumption | omega | (split <;> omega) | (refine And.intro ?_ ?_ <;> split <;> omega)) | omega) (fun x_62 e_x_62 => ?_)
                    have b_x_62 : 0 ≤ x_62 ∧ x_62 ≤ 8191 := by rw [e_x_62]; exact ii_kG_path hσ_53 _
                    try simp (disch := omega) only [w32_of, w64_of, w8_of] at e_x_62
                    have c35 := ii_kG_path hσ_53 k_52
                    have c36 := w32_rng x_62
                    refine wp_waI hσ_53 b_kG_onPath (by (try dsimp only) <;> first | assumption | omega | ((try simp (disch := omega) only [w32_of, w64_of, w8_of]) <;> first | assumption | omega | (split <;> omega) | (refine And.intro ?_ ?_ <;> split <;> omega)) | omega) (by (try dsimp only) <;> first | assumption | omega | ((try simp (disch := omega) only [w32_of, w64_of, w8_of]) <;> first | assumption | omega | (split <;> omega) | (refine And.intro ?_ ?_ <;> split <;> omega)) | omega) (by (try dsimp only) <;> first | assumption | omega | ((try simp (disch := omega) only [w32_of, w64_of, w8_of]) <;> first | assumption | omega | (split <;> omega) | (refine And.intro ?_ ?_ <;> split <;> omega)) | omega) (fun σ_64 hσ_64 eσ_64 => ?_)
                    try simp (disch := omega) only [w32_of, w64_of, w8_of] at eσ_64
                    have flσ_64 := FC_sg eσ_64 (by first | decide | (rcases hE with rfl | rfl | rfl <;> decide))
                    have frσ_64 : FC [kG_corner, kG_corners, kG_isBoundary, kG_onPath, kG_path, kG_ringArea, kG_ringBegin, kG_rings] [] σ σ_64 := FC_tr frσ_53 flσ_64 (by first | decide | (rcases hE with rfl | rfl | rfl <;> decide)) (by first | decide | (rcases hE with rfl | rfl | rfl <;> decide)) (by simp) (by simp)
                    exact wp_some (x_inl ⟨⟨hσ_64, frσ_64, (by (try dsimp only) <;> first | assumption | omega | ((try simp (disch := omega) only [w32_of, w64_of, w8_of]) <;> first | assumption | omega | (split <;> omega) | (refine And.intro ?_ ?_ <;> split <;> omega)) | omega), (by (try dsimp only) <;> (first | exact htr (by assumption) | exact RGs_f flσ_64 (by decide) hr53))⟩, (by (try dsimp only) <;> first | assumption | omega | ((try simp (disch := omega) only [w32_of, w64_of, w8_of]) <;> first | assumption | omega | (split <;> omega) | (refine And.intro ?_ ?_ <;> split <;> omega)) | omega)⟩)
                  · try simp (disch := omega) only [w32_of, w64_of, w8_of, decide_eq_true_eq, decide_eq_false_iff_not, Bool.not_eq_true] at c32
                    exact wp_some (x_inr ⟨hσ_53, frσ_53, (by (try dsimp only) <;> (exact hr53))⟩)
                rintro ⟨k_68, σ_69⟩ _ y37
                try dsimp only at y37 ⊢
                obtain ⟨hσ_69, frσ_69, hr69⟩ := y37
                exact wp_some (x_inl ⟨hσ_69, frσ_69, (by (try dsimp only) <;> first | assumption | omega | ((try simp (disch := omega) only [w32_of, w64_of, w8_of]) <;> first | assumption | omega | (split <;> omega) | (refine And.intro ?_ ?_ <;> split <;> omega)) | omega), (by (try dsimp only) <;> (first | exact hr69 | exact hr84))⟩)
              · try simp (disch := omega) only [w32_of, w64_of, w8_of, decide_eq_true_eq, decide_eq_false_iff_not, Bool.not_eq_true] at c28
                exact wp_some (x_inr (x_inr (x_inr ⟨hσ_49, frσ_49, (fun q => (by cases q))⟩)))
            · try simp (disch := omega) only [w32_of, w64_of, w8_of, decide_eq_true_eq, decide_eq_false_iff_not, Bool.not_eq_true] at c25
              refine wp_bd (P := fun rr_ => II rr_.2 ∧ FC [kG_corner, kG_corners, kG_isBoundary, kG_onPath, kG_path, kG_ringArea, kG_ringBegin, kG_rings] [] σ rr_.2 ∧ (0 ≤ rr_.1 ∧ rr_.1 ≤ 8193) ∧ (RGs rr_.2)) ?_ ?_
              · have c40 := w32_rng size_9
                refine wp_if (fun c39 => ?_) (fun c39 => ?_)
                · try simp (disch := omega) only [w32_of, w64_of, w8_of, decide_eq_true_eq, decide_eq_false_iff_not, Bool.not_eq_true] at c39
                  refine wp_waI hσ_35 b_kG_path (by (try dsimp only) <;> first | assumption | omega | ((try simp (disch := omega) only [w32_of, w64_of, w8_of]) <;> first | assumption | omega | (split <;> omega) | (refine And.intro ?_ ?_ <;> split <;> omega)) | omega) (by (try dsimp only) <;> first | assumption | omega | ((try simp (disch := omega) only [w32_of, w64_of, w8_of]) <;> first | assumption | omega | (split <;> omega) | (refine And.intro ?_ ?_ <;> split <;> omega)) | omega) (by (try dsimp only) <;> first | assumption | omega | ((try simp (disch := omega) only [w32_of, w64_of, w8_of]) <;> first | assumption | omega | (split <;> omega) | (refine And.intro ?_ ?_ <;> split <;> omega)) | omega) (fun σ_77 hσ_77 eσ_77 => ?_)
                  try simp (disch := omega) only [w32_of, w64_of, w8_of] at eσ_77
                  have flσ_77 := FC_sg eσ_77 (by first | decide | (rcases hE with rfl | rfl | rfl <;> decide))
                  have frσ_77 : FC [kG_corner, kG_corners, kG_isBoundary, kG_onPath, kG_path, kG_ringArea, kG_ringBegin, kG_rings] [] σ σ_77 := FC_tr frσ_35 flσ_77 (by first | decide | (rcases hE with rfl | rfl | rfl <;> decide)) (by first | decide | (rcases hE with rfl | rfl | rfl <;> decide)) (by simp) (by simp)
                  refine wp_waI hσ_77 b_kG_onPath (by (try dsimp only) <;> first | assumption | omega | ((try simp (disch := omega) only [w32_of, w64_of, w8_of]) <;> first | assumption | omega | (split <;> omega) | (refine And.intro ?_ ?_ <;> split <;> omega)) | omega) (by (try dsimp only) <;> first | assumption | omega | ((try simp (disch := omega) only [w32_of, w64_of, w8_of]) <;> first | assumption | omega | (split <;> omega) | (refine And.intro ?_ ?_ <;> split <;> omega)) | omega) (by (try dsimp only) <;> first | assumption | omega | ((try simp (disch := omega) only [w32_of, w64_of, w8_of]) <;> first | assumption | omega | (split <;> omega) | (refine And.intro ?_ ?_ <;> split <;> omega)) | omega) (fun σ_79 hσ_79 eσ_79 => ?_)
                  try simp (disch := omega) only [w32_of, w64_of, w8_of] at eσ_79
                  have flσ_79 := FC_sg eσ_79 (by first | decide | (rcases hE with rfl | rfl | rfl <;> decide))
                  have frσ_79 : FC [kG_corner, kG_corners, kG_isBoundary, kG_onPath, kG_path, kG_ringArea, kG_ringBegin, kG_rings] [] σ σ_79 := FC_tr frσ_77 flσ_79 (by first | decide | (rcases hE with rfl | rfl | rfl <;> decide)) (by first | decide | (rcases hE with rfl | rfl | rfl <;> decide)) (by simp) (by simp)
                  exact wp_some ⟨hσ_79, frσ_79, (by (try dsimp only) <;> first | assumption | omega | ((try simp (disch := omega) only [w32_of, w64_of, w8_of]) <;> first | assumption | omega | (split <;> omega) | (refine And.intro ?_ ?_ <;> split <;> omega)) | omega), (by (try dsimp only) <;> (first | exact RGs_f flσ_79 (by decide) (RGs_f flσ_77 (by decide) (RGs_f flσ_35 (by decide) hr12)) | exact RGs_f flσ_35 (by decide) hr12))⟩
                · try simp (disch := omega) only [w32_of, w64_of, w8_of, decide_eq_true_eq, decide_eq_false_iff_not, Bool.not_eq_true] at c39
                  exact wp_some ⟨hσ_35, frσ_35, (by (try dsimp only) <;> first | assumption | omega | ((try simp (disch := omega) only [w32_of, w64_of, w8_of]) <;> first | assumption | omega | (split <;> omega) | (refine And.intro ?_ ?_ <;> split <;> omega)) | omega), (by (try dsimp only) <;> (first | exact RGs_f flσ_79 (by decide) (RGs_f flσ_77 (by decide) (RGs_f flσ_35 (by decide) hr12)) | exact RGs_f flσ_35 (by decide) hr12))⟩
              rintro ⟨size_83, σ_84⟩ _ y42
              try dsimp only at y42 ⊢
              obtain ⟨hσ_84, frσ_84, g41, hr84⟩ := y42
              exact wp_some (x_inl ⟨hσ_84, frσ_84, (by (try dsimp only) <;> first | assumption | omega | ((try simp (disch := omega) only [w32_of, w64_of, w8_of]) <;> first | assumption | omega | (split <;> omega) | (refine And.intro ?_ ?_ <;> split <;> omega)) | omega), (by (try dsimp only) <;> (first | exact hr69 | exact hr84))⟩)
          rintro ⟨size_87, σ_88⟩ y44
          try dsimp only at y44 ⊢
          obtain ⟨hσ_88, frσ_88, g43, hr88⟩ := y44
          refine wp_bd (s_G_nextPiece (σ := σ_88) (piece_0 := piece_10) (h_0 := x_38) hσ_88 (by (try dsimp only) <;> first | assumption | omega | ((try simp (disch := omega) only [w32_of, w64_of, w8_of]) <;> first | assumption | omega | (split <;> omega) | (refine And.intro ?_ ?_ <;> split <;> omega)) | omega) (by (try dsimp only) <;> first | assumption | omega | ((try simp (disch := omega) only [w32_of, w64_of, w8_of]) <;> first | assumption | omega | (split <;> omega) | (refine And.intro ?_ ?_ <;> split <;> omega)) | omega)) ?_
          rintro x_90 - g45
          try simp (disch := omega) only [w32_of, w64_of, w8_of] at g45
          exact wp_some (x_inl ⟨⟨hσ_88, frσ_88, (by (try dsimp only) <;> first | assumption | omega | ((try simp (disch := omega) only [w32_of, w64_of, w8_of]) <;> first | assumption | omega | (split <;> omega) | (refine And.intro ?_ ?_ <;> split <;> omega)) | omega), (by (try dsimp only) <;> first | assumption | omega | ((try simp (disch := omega) only [w32_of, w64_of, w8_of]) <;> first | assumption | omega | (split <;> omega) | (refine And.intro ?_ ?_ <;> split <;> omega)) | omega), (by (try dsimp only) <;> first | assumption | omega | ((try simp (disch := omega) only [w32_of, w64_of, w8_of]) <;> first | assumption | omega | (split <;> omega) | (refine And.intro ?_ ?_ <;> split <;> omega)) | omega), (by (try dsimp only) <;> (first | exact RGs_f flσ_7 (by decide) (RGs_f flσ_3 (by decide) w0) | exact hr88))⟩, (by (try dsimp only) <;> first | assumption | omega | ((try simp (disch := omega) only [w32_of, w64_of, w8_of]) <;> first | assumption | omega | (split <;> omega) | (refine And.intro ?_ ?_ <;> split <;> omega)) | omega)⟩)
        · try simp (disch := omega) only [w32_of, w64_of, w8_of, decide_eq_true_eq, decide_eq_false_iff_not, Bool.not_eq_true] at c18
          exact wp_some (x_inr (x_inl ⟨hσ_12, frσ_12, (by (try dsimp only) <;> first | assumption | omega | ((try simp (disch := omega) only [w32_of, w64_of, w8_of]) <;> first | assumption | omega | (split <;> omega) | (refine And.intro ?_ ?_ <;> split <;> omega)) | omega), (by (try dsimp only) <;> (exact hr12))⟩))
      · try simp (disch := omega) only [w32_of, w64_of, w8_of, decide_eq_true_eq, decide_eq_false_iff_not, Bool.not_eq_true] at c15
        exact wp_some (x_inr (x_inl ⟨hσ_12, frσ_12, (by (try dsimp only) <;> first | assumption | omega | ((try simp (disch := omega) only [w32_of, w64_of, w8_of]) <;> first | assumption | omega | (split <;> omega) | (refine And.intro ?_ ?_ <;> split <;> omega)) | omega), (by (try dsimp only) <;> (exact hr12))⟩))
    · try simp (disch := omega) only [w32_of, w64_of, w8_of, decide_eq_true_eq, decide_eq_false_iff_not, Bool.not_eq_true] at c9
      exact wp_some (x_inr (x_inl ⟨hσ_12, frσ_12, (by (try dsimp only) <;> first | assumption | omega | ((try simp (disch := omega) only [w32_of, w64_of, w8_of]) <;> first | assumption | omega | (split <;> omega) | (refine And.intro ?_ ?_ <;> split <;> omega)) | omega), (by (try dsimp only) <;> (exact hr12))⟩))
  rintro ⟨size_96, piece_97, step_98, σ_99⟩ y47
  try dsimp only at y47 ⊢
  obtain ⟨hσ_99, frσ_99, g46, hr99⟩ := y47
  refine wp_bd (P := fun rr_ => II rr_.2 ∧ FC [kG_corner, kG_corners, kG_isBoundary, kG_onPath, kG_path, kG_ringArea, kG_ringBegin, kG_rings] [] σ rr_.2 ∧ (RGs rr_.2)) ?_ ?_
  · refine wp_whl (fun ss_ => II ss_.2 ∧ FC [kG_corner, kG_corners, kG_isBoundary, kG_onPath, kG_path, kG_ringArea, kG_ringBegin, kG_rings] [] σ ss_.2 ∧ (0 ≤ ss_.1 ∧ ss_.1 ≤ 8193) ∧ (RGs ss_.2)) (fun ss_ => (8194 - ss_.1).toNat) ⟨hσ_99, frσ_99, (by (try dsimp only) <;> first | assumption | omega | ((try simp (disch := omega) only [w32_of, w64_of, w8_of]) <;> first | assumption | omega | (split <;> omega) | (refine And.intro ?_ ?_ <;> split <;> omega)) | omega), (by (try dsimp only) <;> (first | exact hr99 | exact RGs_f flσ_112 (by decide) hr101))⟩ ?_
    rintro ⟨k_100, σ_101⟩ y49
    try dsimp only at y49 ⊢
    obtain ⟨hσ_101, frσ_101, g48, hr101⟩ := y49
    have c51 := w32_rng k_100
    have c52 := w32_rng size_96
    refine wp_if (fun c50 => ?_) (fun c50 => ?_)
    · try simp (disch := omega) only [w32_of, w64_of, w8_of, decide_eq_true_eq, decide_eq_false_iff_not, Bool.not_eq_true] at c50
      refine wp_rdI (by (try dsimp only) <;> first | assumption | omega | ((try simp (disch := omega) only [w32_of, w64_of, w8_of]) <;> first | assumption | omega | (split <;> omega) | (refine And.intro ?_ ?_ <;> split <;> omega)) | omega) (by (try dsimp only) <;> first | assumption | omega | ((try simp (disch := omega) only [w32_of, w64_of, w8_of]) <;> first | assumption | omega | (split <;> omega) | (refine And.intro ?_ ?_ <;> split <;> omega)) | omega) (fun x_110 e_x_110 => ?_)
      have b_x_110 : 0 ≤ x_110 ∧ x_110 ≤ 8191 := by rw [e_x_110]; exact ii_kG_path hσ_101 _
      try simp (disch := omega) only [w32_of, w64_of, w8_of] at e_x_110
      have c53 := ii_kG_path hσ_101 k_100
      have c54 := w32_rng x_110
      refine wp_waI hσ_101 b_kG_onPath (by (try dsimp only) <;> first | assumption | omega | ((try simp (disch := omega) only [w32_of, w64_of, w8_of]) <;> first | assumption | omega | (split <;> omega) | (refine And.intro ?_ ?_ <;> split <;> omega)) | omega) (by (try dsimp only) <;> first | assumption | omega | ((try simp (disch := omega) only [w32_of, w64_of, w8_of]) <;> first | assumption | omega | (split <;> omega) | (refine And.intro ?_ ?_ <;> split <;> omega)) | omega) (by (try dsimp only) <;> first | assumption | omega | ((try simp (disch := omega) only [w32_of, w64_of, w8_of]) <;> first | assumption | omega | (split <;> omega) | (refine And.intro ?_ ?_ <;> split <;> omega)) | omega) (fun σ_112 hσ_112 eσ_112 => ?_)
      try simp (disch := omega) only [w32_of, w64_of, w8_of] at eσ_112
      have flσ_112 := FC_sg eσ_112 (by first | decide | (rcases hE with rfl | rfl | rfl <;> decide))
      have frσ_112 : FC [kG_corner, kG_corners, kG_isBoundary, kG_onPath, kG_path, kG_ringArea, kG_ringBegin, kG_rings] [] σ σ_112 := FC_tr frσ_101 flσ_112 (by first | decide | (rcases hE with rfl | rfl | rfl <;> decide)) (by first | decide | (rcases hE with rfl | rfl | rfl <;> decide)) (by simp) (by simp)
      exact wp_some (x_inl ⟨⟨hσ_112, frσ_112, (by (try dsimp only) <;> first | assumption | omega | ((try simp (disch := omega) only [w32_of, w64_of, w8_of]) <;> first | assumption | omega | (split <;> omega) | (refine And.intro ?_ ?_ <;> split <;> omega)) | omega), (by (try dsimp only) <;> (first | exact hr99 | exact RGs_f flσ_112 (by decide) hr101))⟩, (by (try dsimp only) <;> first | assumption | omega | ((try simp (disch := omega) only [w32_of, w64_of, w8_of]) <;> first | assumption | omega | (split <;> omega) | (refine And.intro ?_ ?_ <;> split <;> omega)) | omega)⟩)
    · try simp (disch := omega) only [w32_of, w64_of, w8_of, decide_eq_true_eq, decide_eq_false_iff_not, Bool.not_eq_true] at c50
      exact wp_some (x_inr ⟨hσ_101, frσ_101, (by (try dsimp only) <;> (exact hr101))⟩)
  rintro ⟨k_116, σ_117⟩ _ y55
  try dsimp only at y55 ⊢
  obtain ⟨hσ_117, frσ_117, hr117⟩ := y55
  exact wp_some ⟨hσ_117, frσ_117, (by (try dsimp only) <;> (first | (intro q9; exact absurd q9 (by decide)) | (intro _; exact hr117)))⟩
theorem s_G_traceRings {σ : SG} (hσ : II σ) : wp_ (fG_traceRings σ) (fun zz_ => II zz_.2 ∧ FC [kG_corner, kG_corners, kG_isBoundary, kG_onPath, kG_path, kG_ringArea, kG_ringBegin, kG_rings] [] σ zz_.2 ∧ ((zz_.1 = true) → (RGs zz_.2))) := by
  unfold fG_traceRings
  have hH := ii_kN_hot hσ 0
  refine wp_wfI hσ b_kG_rings (by (try dsimp only) <;> first | assumption | omega | ((try simp (disch := omega) only [w32_of, w64_of, w8_of]) <;> first | assumption | omega | (split <;> omega) | (refine And.intro ?_ ?_ <;> split <;> omega)) | omega) (fun σ_1 hσ_1 eσ_1 => ?_)
  try simp (disch := omega) only [w32_of, w64_of, w8_of] at eσ_1
  have flσ_1 := FC_sg eσ_1 (by first | decide | (rcases hE with rfl | rfl | rfl <;> decide))
  have frσ_1 : FC [kG_corner, kG_corners, kG_isBoundary, kG_onPath, kG_path, kG_ringArea, kG_ringBegin, kG_rings] [] σ σ_1 := FC_le flσ_1 (by first | decide | (rcases hE with rfl | rfl | rfl <;> decide)) (by simp)
  refine wp_wfI hσ_1 b_kG_corners (by (try dsimp only) <;> first | assumption | omega | ((try simp (disch := omega) only [w32_of, w64_of, w8_of]) <;> first | assumption | omega | (split <;> omega) | (refine And.intro ?_ ?_ <;> split <;> omega)) | omega) (fun σ_2 hσ_2 eσ_2 => ?_)
  try simp (disch := omega) only [w32_of, w64_of, w8_of] at eσ_2
  have flσ_2 := FC_sg eσ_2 (by first | decide | (rcases hE with rfl | rfl | rfl <;> decide))
  have frσ_2 : FC [kG_corner, kG_corners, kG_isBoundary, kG_onPath, kG_path, kG_ringArea, kG_ringBegin, kG_rings] [] σ σ_2 := FC_tr frσ_1 flσ_2 (by first | decide | (rcases hE with rfl | rfl | rfl <;> decide)) (by first | decide | (rcases hE with rfl | rfl | rfl <;> decide)) (by simp) (by simp)
  have c1 := ii_kN_hot hσ_2 0
  have c2 := FC_at flσ_2 (c := kN_hot) (by first | decide | (rcases hE with rfl | rfl | rfl <;> decide)) 0
  have c3 := ii_kN_hot hσ_1 0
  have c4 := FC_at flσ_1 (c := kN_hot) (by first | decide | (rcases hE with rfl | rfl | rfl <;> decide)) 0
  have c5 := ii_kN_hot hσ 0
  refine wp_bd (v_fillIR (σ := σ_2) (a_0 := 216) (a_n := 8192) (fromIndex_0 := 0) (toIndex_0 := (σ_2 kN_hot 0)) (val_0 := 0) hσ_2 (by decide) (by rw [show (216 * 256 : Nat) = kG_onPath from rfl, b_kG_onPath]; exact ⟨by decide, by decide⟩) (by decide) (by (try dsimp only) <;> first | assumption | omega | ((try simp (disch := omega) only [w32_of, w64_of, w8_of]) <;> first | assumption | omega | (split <;> omega) | (refine And.intro ?_ ?_ <;> split <;> omega)) | omega)) ?_
  rintro σ_4 - ⟨hσ_4, flσ_4, g6⟩
  have frσ_4 : FC [kG_corner, kG_corners, kG_isBoundary, kG_onPath, kG_path, kG_ringArea, kG_ringBegin, kG_rings] [] σ σ_4 := FC_tr frσ_2 flσ_4 (by first | decide | (rcases hE with rfl | rfl | rfl <;> decide)) (by first | decide | (rcases hE with rfl | rfl | rfl <;> decide)) (by simp) (by simp)
  try simp (disch := omega) only [w32_of, w64_of, w8_of] at g6
  refine wp_bx (P := fun rr_ => II rr_.2 ∧ FC [kG_corner, kG_corners, kG_isBoundary, kG_onPath, kG_path, kG_ringArea, kG_ringBegin, kG_rings] [] σ rr_.2 ∧ (RGs rr_.2)) ?_ ?_
  · refine wp_whl (fun ss_ => II ss_.2 ∧ FC [kG_corner, kG_corners, kG_isBoundary, kG_onPath, kG_path, kG_ringArea, kG_ringBegin, kG_rings] [] σ ss_.2 ∧ (0 ≤ ss_.1 ∧ ss_.1 ≤ 16384) ∧ (RGs ss_.2)) (fun ss_ => (16385 - ss_.1).toNat) ⟨hσ_4, frσ_4, (by (try dsimp only) <;> first | assumption | omega | ((try simp (disch := omega) only [w32_of, w64_of, w8_of]) <;> first | assumption | omega | (split <;> omega) | (refine And.intro ?_ ?_ <;> split <;> omega)) | omega), (by (try dsimp only) <;> (first | exact RGs_0 (by rw [FC_at flσ_4 (c := kG_rings) (by decide), eσ_2, sg_nc (by decide), eσ_1, sg_at]) | exact htr (by assumption) | exact hr6))⟩ ?_
    rintro ⟨piece_5, σ_6⟩ y8
    try dsimp only at y8 ⊢
    obtain ⟨hσ_6, frσ_6, g7, hr6⟩ := y8
    have c10 := w32_rng piece_5
    have c11 := ii_kN_pieces hσ_6 0
    have c12 := FC_at frσ_6 (c := kN_pieces) (by first | decide | (rcases hE with rfl | rfl | rfl <;> decide)) 0
    have c13 := ii_kN_pieces hσ 0
    have c14 := w32_rng (σ_6 kN_pieces 0)
    refine wp_if (fun c9 => ?_) (fun c9 => ?_)
    · try simp (disch := omega) only [w32_of, w64_of, w8_of, decide_eq_true_eq, decide_eq_false_iff_not, Bool.not_eq_true] at c9
      refine wp_rdI (by (try dsimp only) <;> first | assumption | omega | ((try simp (disch := omega) only [w32_of, w64_of, w8_of]) <;> first | assumption | omega | (split <;> omega) | (refine And.intro ?_ ?_ <;> split <;> omega)) | omega) (by (try dsimp only) <;> first | assumption | omega | ((try simp (disch := omega) only [w32_of, w64_of, w8_of]) <;> first | assumption | omega | (split <;> omega) | (refine And.intro ?_ ?_ <;> split <;> omega)) | omega) (fun x_26 e_x_26 => ?_)
      have b_x_26 : 0 ≤ x_26 ∧ x_26 ≤ 1 := by rw [e_x_26]; exact ii_kG_isBoundary hσ_6 _
      try simp (disch := omega) only [w32_of, w64_of, w8_of] at e_x_26
      have c15 := ii_kG_isBoundary hσ_6 piece_5
      refine wp_if (fun c16 => ?_) (fun c16 => ?_)
      · try simp (disch := omega) only [w32_of, w64_of, w8_of, decide_eq_true_eq, decide_eq_false_iff_not, Bool.not_eq_true] at c16
        refine wp_bd (s_G_trace (σ := σ_6) (first_0 := piece_5) hσ_6 hr6 (by (try dsimp only) <;> first | assumption | omega | ((try simp (disch := omega) only [w32_of, w64_of, w8_of]) <;> first | assumption | omega | (split <;> omega) | (refine And.intro ?_ ?_ <;> split <;> omega)) | omega)) ?_
        rintro ⟨x_31, σ_30⟩ - y17
        try dsimp only at y17 ⊢
        obtain ⟨hσ_30, flσ_30, htr⟩ := y17
        have frσ_30 : FC [kG_corner, kG_corners, kG_isBoundary, kG_onPath, kG_path, kG_ringArea, kG_ringBegin, kG_rings] [] σ σ_30 := FC_tr frσ_6 flσ_30 (by first | decide | (rcases hE with rfl | rfl | rfl <;> decide)) (by first | decide | (rcases hE with rfl | rfl | rfl <;> decide)) (by simp) (by simp)
        try simp (disch := omega) only [w32_of, w64_of, w8_of] at htr
        refine wp_if (fun c18 => ?_) (fun c18 => ?_)
        · have k19 := htr c18
          try simp (disch := omega) only [w32_of, w64_of, w8_of] at k19
          try simp (disch := omega) only [w32_of, w64_of, w8_of, decide_eq_true_eq, decide_eq_false_iff_not, Bool.not_eq_true] at c18
          exact wp_some (x_inl ⟨⟨hσ_30, frσ_30, (by (try dsimp only) <;> first | assumption | omega | ((try simp (disch := omega) only [w32_of, w64_of, w8_of]) <;> first | assumption | omega | (split <;> omega) | (refine And.intro ?_ ?_ <;> split <;> omega)) | omega), (by (try dsimp only) <;> (first | exact RGs_0 (by rw [FC_at flσ_4 (c := kG_rings) (by decide), eσ_2, sg_nc (by decide), eσ_1, sg_at]) | exact htr (by assumption) | exact hr6))⟩, (by (try dsimp only) <;> first | assumption | omega | ((try simp (disch := omega) only [w32_of, w64_of, w8_of]) <;> first | assumption | omega | (split <;> omega) | (refine And.intro ?_ ?_ <;> split <;> omega)) | omega)⟩)
        · try simp (disch := omega) only [w32_of, w64_of, w8_of, decide_eq_true_eq, decide_eq_false_iff_not, Bool.not_eq_true] at c18
          exact wp_some (x_inr (x_inr ⟨hσ_30, frσ_30, (fun q => (by cases q))⟩))
      · try simp (disch := omega) only [w32_of, w64_of, w8_of, decide_eq_true_eq, decide_eq_false_iff_not, Bool.not_eq_true] at c16
        exact wp_some (x_inl ⟨⟨hσ_6, frσ_6, (by (try dsimp only) <;> first | assumption | omega | ((try simp (disch := omega) only [w32_of, w64_of, w8_of]) <;> first | assumption | omega | (split <;> omega) | (refine And.intro ?_ ?_ <;> split <;> omega)) | omega), (by (try dsimp only) <;> (first | exact RGs_0 (by rw [FC_at flσ_4 (c := kG_rings) (by decide), eσ_2, sg_nc (by decide), eσ_1, sg_at]) | exact htr (by assumption) | exact hr6))⟩, (by (try dsimp only) <;> first | assumption | omega | ((try simp (disch := omega) only [w32_of, w64_of, w8_of]) <;> first | assumption | omega | (split <;> omega) | (refine And.intro ?_ ?_ <;> split <;> omega)) | omega)⟩)
    · try simp (disch := omega) only [w32_of, w64_of, w8_of, decide_eq_true_eq, decide_eq_false_iff_not, Bool.not_eq_true] at c9
      exact wp_some (x_inr (x_inl ⟨hσ_6, frσ_6, (by (try dsimp only) <;> (exact hr6))⟩))
  rintro ⟨piece_36, σ_37⟩ y21
  try dsimp only at y21 ⊢
  obtain ⟨hσ_37, frσ_37, hr37⟩ := y21
  exact wp_some ⟨hσ_37, frσ_37, (by (try dsimp only) <;> (first | (intro q9; exact absurd q9 (by decide)) | (intro _; exact hr37)))⟩
theorem s_G_sortRings {σ : SG} (hσ : II σ) (w0 : RGs σ) : wp_ (fG_sortRings σ) (fun zz_ => II zz_ ∧ FC [kG_order] [] σ zz_ ∧ (ORr zz_ (σ kG_rings 0) (σ kG_rings 0))) := by
  unfold fG_sortRings
  have hrg := ii_kG_rings hσ 0
  have hco := ii_kG_corners hσ 0
  refine wp_bd (P := fun rr_ => II rr_.2 ∧ FC [kG_order] [] σ rr_.2 ∧ (ORr rr_.2 (σ kG_rings 0) (σ kG_rings 0))) ?_ ?_
  · have c1 := ii_kG_rings hσ 0
    refine wp_whl (fun ss_ => II ss_.2 ∧ FC [kG_order] [] σ ss_.2 ∧ (0 ≤ ss_.1 ∧ ss_.1 ≤ σ kG_rings 0) ∧ (ORr ss_.2 ss_.1 (σ kG_rings 0))) (fun ss_ => (σ kG_rings 0 - ss_.1).toNat) ⟨hσ, (FC_refl _ _ _), (by (try dsimp only) <;> first | assumption | omega | ((try simp (disch := omega) only [w32_of, w64_of, w8_of]) <;> first | assumption | omega | (split <;> omega) | (refine And.intro ?_ ?_ <;> split <;> omega)) | omega), (by (try dsimp only) <;> (first | exact ORr_0 _ _ | exact ORr_add ho2 eσ_30 (by omega) (by omega) (by omega) (by omega)))⟩ ?_
    rintro ⟨ring_1, σ_2⟩ y3
    try dsimp only at y3 ⊢
    obtain ⟨hσ_2, frσ_2, g2, ho2⟩ := y3
    have c5 := w32_rng ring_1
    have c6 := ii_kG_rings hσ_2 0
    have c7 := FC_at frσ_2 (c := kG_rings) (by first | decide | (rcases hE with rfl | rfl | rfl <;> decide)) 0
    have c8 := w32_rng (σ_2 kG_rings 0)
    refine wp_if (fun c4 => ?_) (fun c4 => ?_)
    · try simp (disch := omega) only [w32_of, w64_of, w8_of, decide_eq_true_eq, decide_eq_false_iff_not, Bool.not_eq_true] at c4
      have hlt := RGs_lt w0 (show 0 ≤ ring_1 by omega) (by omega)
      refine wp_rdI (by (try dsimp only) <;> first | assumption | omega | ((try simp (disch := omega) only [w32_of, w64_of, w8_of]) <;> first | assumption | omega | (split <;> omega) | (refine And.intro ?_ ?_ <;> split <;> omega)) | omega) (by (try dsimp only) <;> first | assumption | omega | ((try simp (disch := omega) only [w32_of, w64_of, w8_of]) <;> first | assumption | omega | (split <;> omega) | (refine And.intro ?_ ?_ <;> split <;> omega)) | omega) (fun x_11 e_x_11 => ?_)
      have b_x_11 : 0 ≤ x_11 ∧ x_11 ≤ 2048 := by rw [e_x_11]; exact ii_kG_ringBegin hσ_2 _
      rw [FC_at frσ_2 (c := kG_ringBegin) (by first | decide | (rcases hE with rfl | rfl | rfl <;> decide))] at e_x_11
      try simp (disch := omega) only [w32_of, w64_of, w8_of] at e_x_11
      have c9 := ii_kG_ringBegin hσ_2 ring_1
      have c10 := FC_at frσ_2 (c := kG_ringBegin) (by first | decide | (rcases hE with rfl | rfl | rfl <;> decide)) ring_1
      have c11 := ii_kG_ringBegin hσ ring_1
      refine wp_bd (P := fun rr_ => (0 ≤ rr_ ∧ rr_ ≤ 8191)) ?_ ?_
      · have c12 := w32_rng (ring_1 + 1)
        refine wp_rdI (by (try dsimp only) <;> first | assumption | omega | ((try simp (disch := omega) only [w32_of, w64_of, w8_of]) <;> first | assumption | omega | (split <;> omega) | (refine And.intro ?_ ?_ <;> split <;> omega)) | omega) (by (try dsimp only) <;> first | assumption | omega | ((try simp (disch := omega) only [w32_of, w64_of, w8_of]) <;> first | assumption | omega | (split <;> omega) | (refine And.intro ?_ ?_ <;> split <;> omega)) | omega) (fun x_20 e_x_20 => ?_)
        have b_x_20 : 0 ≤ x_20 ∧ x_20 ≤ 2048 := by rw [e_x_20]; exact ii_kG_ringBegin hσ_2 _
        rw [FC_at frσ_2 (c := kG_ringBegin) (by first | decide | (rcases hE with rfl | rfl | rfl <;> decide))] at e_x_20
        try simp (disch := omega) only [w32_of, w64_of, w8_of] at e_x_20
        have c13 := ii_kG_ringBegin hσ_2 (ring_1 + 1)
        have c14 := FC_at frσ_2 (c := kG_ringBegin) (by first | decide | (rcases hE with rfl | rfl | rfl <;> decide)) (ring_1 + 1)
        have c15 := ii_kG_ringBegin hσ (ring_1 + 1)
        have c17 := w32_rng (x_11 + 1)
        have c18 := w32_rng x_20
        refine wp_if (fun c16 => ?_) (fun c16 => ?_)
        · try simp (disch := omega) only [w32_of, w64_of, w8_of, decide_eq_true_eq, decide_eq_false_iff_not, Bool.not_eq_true] at c16
          refine wp_rdI (by (try dsimp only) <;> first | assumption | omega | ((try simp (disch := omega) only [w32_of, w64_of, w8_of]) <;> first | assumption | omega | (split <;> omega) | (refine And.intro ?_ ?_ <;> split <;> omega)) | omega) (by (try dsimp only) <;> first | assumption | omega | ((try simp (disch := omega) only [w32_of, w64_of, w8_of]) <;> first | assumption | omega | (split <;> omega) | (refine And.intro ?_ ?_ <;> split <;> omega)) | omega) (fun x_23 e_x_23 => ?_)
          have b_x_23 : 0 ≤ x_23 ∧ x_23 ≤ 8191 := by rw [e_x_23]; exact ii_kG_corner hσ_2 _
          rw [FC_at frσ_2 (c := kG_corner) (by first | decide | (rcases hE with rfl | rfl | rfl <;> decide))] at e_x_23
          try simp (disch := omega) only [w32_of, w64_of, w8_of] at e_x_23
          have c19 := ii_kG_corner hσ_2 (x_11 + 1)
          have c20 := FC_at frσ_2 (c := kG_corner) (by first | decide | (rcases hE with rfl | rfl | rfl <;> decide)) (x_11 + 1)
          have c21 := ii_kG_corner hσ (x_11 + 1)
          exact wp_some (by (try dsimp only) <;> first | assumption | omega | ((try simp (disch := omega) only [w32_of, w64_of, w8_of]) <;> first | assumption | omega | (split <;> omega) | (refine And.intro ?_ ?_ <;> split <;> omega)) | omega)
        · try simp (disch := omega) only [w32_of, w64_of, w8_of, decide_eq_true_eq, decide_eq_false_iff_not, Bool.not_eq_true] at c16
          exact wp_some (by (try dsimp only) <;> first | assumption | omega | ((try simp (disch := omega) only [w32_of, w64_of, w8_of]) <;> first | assumption | omega | (split <;> omega) | (refine And.intro ?_ ?_ <;> split <;> omega)) | omega)
      rintro x_27 _ g22
      have c23 := w32_rng x_11
      refine wp_rdI (by (try dsimp only) <;> first | assumption | omega | ((try simp (disch := omega) only [w32_of, w64_of, w8_of]) <;> first | assumption | omega | (split <;> omega) | (refine And.intro ?_ ?_ <;> split <;> omega)) | omega) (by (try dsimp only) <;> first | assumption | omega | ((try simp (disch := omega) only [w32_of, w64_of, w8_of]) <;> first | assumption | omega | (split <;> omega) | (refine And.intro ?_ ?_ <;> split <;> omega)) | omega) (fun x_28 e_x_28 => ?_)
      have b_x_28 : 0 ≤ x_28 ∧ x_28 ≤ 8191 := by rw [e_x_28]; exact ii_kG_corner hσ_2 _
      rw [FC_at frσ_2 (c := kG_corner) (by first | decide | (rcases hE with rfl | rfl | rfl <;> decide))] at e_x_28
      try simp (disch := omega) only [w32_of, w64_of, w8_of] at e_x_28
      have c24 := ii_kG_corner hσ_2 x_11
      have c25 := FC_at frσ_2 (c := kG_corner) (by first | decide | (rcases hE with rfl | rfl | rfl <;> decide)) x_11
      have c26 := ii_kG_corner hσ x_11
      have c27 := w32_rng x_28
      refine wp_waN hσ_2 b_kG_order (by (try dsimp only) <;> first | assumption | omega | ((try simp (disch := omega) only [w32_of, w64_of, w8_of]) <;> first | assumption | omega | (split <;> omega) | (refine And.intro ?_ ?_ <;> split <;> omega)) | omega) (by (try dsimp only) <;> first | assumption | omega | ((try simp (disch := omega) only [w32_of, w64_of, w8_of]) <;> first | assumption | omega | (split <;> omega) | (refine And.intro ?_ ?_ <;> split <;> omega)) | omega) (fun σ_30 hσ_30 eσ_30 => ?_)
      try simp (disch := omega) only [w32_of, w64_of, w8_of] at eσ_30
      have flσ_30 := FC_sg eσ_30 (by first | decide | (rcases hE with rfl | rfl | rfl <;> decide))
      have frσ_30 : FC [kG_order] [] σ σ_30 := FC_tr frσ_2 flσ_30 (by first | decide | (rcases hE with rfl | rfl | rfl <;> decide)) (by first | decide | (rcases hE with rfl | rfl | rfl <;> decide)) (by simp) (by simp)
      exact wp_some (x_inl ⟨⟨hσ_30, frσ_30, (by (try dsimp only) <;> first | assumption | omega | ((try simp (disch := omega) only [w32_of, w64_of, w8_of]) <;> first | assumption | omega | (split <;> omega) | (refine And.intro ?_ ?_ <;> split <;> omega)) | omega), (by (try dsimp only) <;> (first | exact ORr_0 _ _ | exact ORr_add ho2 eσ_30 (by omega) (by omega) (by omega) (by omega)))⟩, (by (try dsimp only) <;> first | assumption | omega | ((try simp (disch := omega) only [w32_of, w64_of, w8_of]) <;> first | assumption | omega | (split <;> omega) | (refine And.intro ?_ ?_ <;> split <;> omega)) | omega)⟩)
    · try simp (disch := omega) only [w32_of, w64_of, w8_of, decide_eq_true_eq, decide_eq_false_iff_not, Bool.not_eq_true] at c4
      exact wp_some (x_inr ⟨hσ_2, frσ_2, (by (try dsimp only) <;> (rw [show σ kG_rings 0 = ring_1 by omega] at ho2 ⊢; exact ho2))⟩)
  rintro ⟨ring_38, σ_39⟩ _ y32
  try dsimp only at y32 ⊢
  obtain ⟨hσ_39, frσ_39, ho39⟩ := y32
  have c33 := ii_kG_rings hσ_39 0
  have c34 := FC_at frσ_39 (c := kG_rings) (by first | decide | (rcases hE with rfl | rfl | rfl <;> decide)) 0
  have c35 := ii_kG_rings hσ 0
  refine wp_bd (v_sortRow (σ := σ_39) (row_0 := 221) (row_n := 512) (size_0 := (σ_39 kG_rings 0)) hσ_39 (by decide) (by decide) (by (try dsimp only) <;> first | assumption | omega | ((try simp (disch := omega) only [w32_of, w64_of, w8_of]) <;> first | assumption | omega | (split <;> omega) | (refine And.intro ?_ ?_ <;> split <;> omega)) | omega)) ?_
  rintro σ_41 - ⟨hσ_41, flσ_41, hsb⟩
  have frσ_41 : FC [kG_order] [] σ σ_41 := FC_tr frσ_39 flσ_41 (by first | decide | (rcases hE with rfl | rfl | rfl <;> decide)) (by first | decide | (rcases hE with rfl | rfl | rfl <;> decide)) (by simp) (by simp)
  try simp (disch := omega) only [w32_of, w64_of, w8_of] at hsb
  exact wp_some ⟨hσ_41, frσ_41, (by (try dsimp only) <;> (rw [show σ_39 kG_rings 0 = σ kG_rings 0 from FC_at frσ_39 (c := kG_rings) (by decide) 0] at hsb; exact ORr_sb ho39 hsb))⟩
theorem s_G_ringInOrder {σ : SG} {i_0 : Int} {n_9 m_9 : Int} (hσ : II σ) (w0 : ORr σ n_9 m_9) (w1 : 0 ≤ i_0 ∧ i_0 < n_9 ∧ n_9 ≤ 512 ∧ m_9 ≤ 512) : wp_ (fG_ringInOrder σ i_0) (fun zz_ => (0 ≤ zz_ ∧ zz_ < m_9)) := by
  unfold fG_ringInOrder
  have ho := w0 i_0 (by omega) (by omega)
  have c1 := w32_rng i_0
  refine wp_rdI (by (try dsimp only) <;> first | assumption | omega | ((try simp (disch := omega) only [w32_of, w64_of, w8_of]) <;> first | assumption | omega | (split <;> omega) | (refine And.intro ?_ ?_ <;> split <;> omega)) | omega) (by (try dsimp only) <;> first | assumption | omega | ((try simp (disch := omega) only [w32_of, w64_of, w8_of]) <;> first | assumption | omega | (split <;> omega) | (refine And.intro ?_ ?_ <;> split <;> omega)) | omega) (fun x_1 e_x_1 => ?_)
  try simp (disch := omega) only [w32_of, w64_of, w8_of] at e_x_1
  rw [← e_x_1] at ho
  exact wp_some (by (try dsimp only) <;> first | assumption | omega | ((try simp (disch := omega) only [w32_of, w64_of, w8_of]) <;> first | assumption | omega | (split <;> omega) | (refine And.intro ?_ ?_ <;> split <;> omega)) | omega)
theorem s_G_tellRing {σ : SG} {into_0 : Nat} {ring_0 : Int} (hσ : II σ) (hs_into_0 : isS into_0) (w0 : RGs σ) (w1 : 0 ≤ ring_0 ∧ ring_0 < σ kG_rings 0) : wp_ (fG_tellRing σ into_0 ring_0) (fun zz_ => II zz_.2 ∧ FC [] [into_0] σ zz_.2 ∧ ((zz_.1 = true) → (∃ L, 1 ≤ L ∧ zz_.2 (kA_plans into_0) 0 = σ (kA_plans into_0) 0 + 1 ∧ zz_.2 (kA_points into_0) 0 = σ (kA_points into_0) 0 + L ∧ zz_.2 (kA_plan into_0) (σ (kA_plans into_0) 0) = L ∧ ∀ i, i ≠ σ (kA_plans into_0) 0 → zz_.2 (kA_plan into_0) i = σ (kA_plan into_0) i))) := by
  unfold fG_tellRing
  have c1 := ii_kG_rings hσ 0
  have hrg := ii_kG_rings hσ 0
  have hco := ii_kG_corners hσ 0
  have hlt := RGs_lt w0 (show 0 ≤ ring_0 by omega) (by omega)
  have hpl := iiA_plans hσ hs_into_0 0
  have hpt := iiA_points hσ hs_into_0 0
  have c2 := w32_rng ring_0
  refine wp_rdI (by (try dsimp only) <;> first | assumption | omega | ((try simp (disch := omega) only [w32_of, w64_of, w8_of]) <;> first | assumption | omega | (split <;> omega) | (refine And.intro ?_ ?_ <;> split <;> omega)) | omega) (by (try dsimp only) <;> first | assumption | omega | ((try simp (disch := omega) only [w32_of, w64_of, w8_of]) <;> first | assumption | omega | (split <;> omega) | (refine And.intro ?_ ?_ <;> split <;> omega)) | omega) (fun x_1 e_x_1 => ?_)
  have b_x_1 : 0 ≤ x_1 ∧ x_1 ≤ 2048 := by rw [e_x_1]; exact ii_kG_ringBegin hσ _
  try simp (disch := omega) only [w32_of, w64_of, w8_of] at e_x_1
  have c3 := ii_kG_ringBegin hσ ring_0
  have c4 := w32_rng (ring_0 + 1)
  refine wp_rdI (by (try dsimp only) <;> first | assumption | omega | ((try simp (disch := omega) only [w32_of, w64_of, w8_of]) <;> first | assumption | omega | (split <;> omega) | (refine And.intro ?_ ?_ <;> split <;> omega)) | omega) (by (try dsimp only) <;> first | assumption | omega | ((try simp (disch := omega) only [w32_of, w64_of, w8_of]) <;> first | assumption | omega | (split <;> omega) | (refine And.intro ?_ ?_ <;> split <;> omega)) | omega) (fun x_3 e_x_3 => ?_)
  have b_x_3 : 0 ≤ x_3 ∧ x_3 ≤ 2048 := by rw [e_x_3]; exact ii_kG_ringBegin hσ _
  try simp (disch := omega) only [w32_of, w64_of, w8_of] at e_x_3
  have c5 := ii_kG_ringBegin hσ (ring_0 + 1)
  refine wp_bd (v_addRing (σ := σ) (this_0 := into_0) (length_0 := ((x_3 - x_1) + 1)) hσ (by first | assumption | decide | omega)) ?_
  rintro ⟨x_7, σ_6⟩ - y6
  try dsimp only at y6 ⊢
  obtain ⟨hσ_6, flσ_6, hr1, hr2, hr3, hr4, hr5, hr6⟩ := y6
  have frσ_6 : FC [] [into_0] σ σ_6 := FC_le flσ_6 (by first | decide | (rcases hE with rfl | rfl | rfl <;> decide)) (by simp)
  have c7 := iiA_plans (s := into_0) hσ (by first | assumption | decide | omega) 0
  try simp (disch := omega) only [w32_of, w64_of, w8_of] at hr1
  try simp (disch := omega) only [w32_of, w64_of, w8_of] at hr2
  have c8 := iiA_plans (s := into_0) hσ_6 (by first | assumption | decide | omega) 0
  try simp (disch := omega) only [w32_of, w64_of, w8_of] at hr3
  try simp (disch := omega) only [w32_of, w64_of, w8_of] at hr4
  try simp (disch := omega) only [w32_of, w64_of, w8_of] at hr5
  try simp (disch := omega) only [w32_of, w64_of, w8_of] at hr6
  refine wp_bd (P := fun rr_ => II rr_.2.2 ∧ FC [] [into_0] σ rr_.2.2 ∧ ((rr_.1 = true) → (x_7 = true ∧ rr_.2.2 (kA_points into_0) 0 = σ_6 (kA_points into_0) 0 + (x_3 - x_1 + 1))) ∧ (rr_.2.2 (kA_plans into_0) = σ_6 (kA_plans into_0) ∧ rr_.2.2 (kA_plan into_0) = σ_6 (kA_plan into_0))) ?_ ?_
  · have c9 := iiA_points (s := into_0) hσ_6 (by first | assumption | decide | omega) 0
    refine wp_whl (fun ss_ => II ss_.2.2 ∧ FC [] [into_0] σ ss_.2.2 ∧ (0 ≤ ss_.2.1 ∧ ss_.2.1 ≤ x_3 - x_1 + 1) ∧ ((ss_.1 = true) → (x_7 = true ∧ ss_.2.2 (kA_points into_0) 0 = σ_6 (kA_points into_0) 0 + ss_.2.1)) ∧ (ss_.2.2 (kA_plans into_0) = σ_6 (kA_plans into_0) ∧ ss_.2.2 (kA_plan into_0) = σ_6 (kA_plan into_0))) (fun ss_ => (x_3 - x_1 + 1 - ss_.2.1).toNat) ⟨hσ_6, frσ_6, (by (try dsimp only) <;> first | assumption | omega | ((try simp (disch := omega) only [w32_of, w64_of, w8_of]) <;> first | assumption | omega | (split <;> omega) | (refine And.intro ?_ ?_ <;> split <;> omega)) | omega), (by (try dsimp only) <;> (first | (intro q9; exact ⟨q9, by omega⟩) | (intro q9; have h9 := hp3 q9; have h8 := hfi hcc.2; exact ⟨h8.1, by omega⟩))), (by (try dsimp only) <;> (first | exact ⟨rfl, rfl⟩ | exact ⟨hp4.trans hpp.1, hp5.trans hpp.2⟩))⟩ ?_
    rintro ⟨fits_8, k_9, σ_10⟩ y11
    try dsimp only at y11 ⊢
    obtain ⟨hσ_10, frσ_10, g10, hfi, hpp⟩ := y11
    have c13 := w32_rng k_9
    have c14 := w32_rng (x_3 - x_1)
    refine wp_if (fun c12 => ?_) (fun c12 => ?_)
    · have hcc := c12
      try simp (disch := omega) only [w32_of, w64_of, w8_of, decide_eq_true_eq, decide_eq_false_iff_not, Bool.not_eq_true] at c12
      have c15 := w32_rng (if ((w32 k_9) < (w32 (x_3 - x_1))) then (x_1 + k_9) else x_1)
      refine wp_rdI (by (try dsimp only) <;> first | assumption | omega | ((try simp (disch := omega) only [w32_of, w64_of, w8_of]) <;> first | assumption | omega | (split <;> omega) | (refine And.intro ?_ ?_ <;> split <;> omega)) | omega) (by (try dsimp only) <;> first | assumption | omega | ((try simp (disch := omega) only [w32_of, w64_of, w8_of]) <;> first | assumption | omega | (split <;> omega) | (refine And.intro ?_ ?_ <;> split <;> omega)) | omega) (fun x_19 e_x_19 => ?_)
      have b_x_19 : 0 ≤ x_19 ∧ x_19 ≤ 8191 := by rw [e_x_19]; exact ii_kG_corner hσ_10 _
      rw [FC_at frσ_10 (c := kG_corner) (by first | decide | (rcases hE with rfl | rfl | rfl <;> decide))] at e_x_19
      try simp (disch := omega) only [w32_of, w64_of, w8_of] at e_x_19
      have c16 := ii_kG_corner hσ_10 (if ((w32 k_9) < (w32 (x_3 - x_1))) then (x_1 + k_9) else x_1)
      have c17 := FC_at frσ_10 (c := kG_corner) (by first | decide | (rcases hE with rfl | rfl | rfl <;> decide)) (if ((w32 k_9) < (w32 (x_3 - x_1))) then (x_1 + k_9) else x_1)
      have c18 := ii_kG_corner hσ (if ((w32 k_9) < (w32 (x_3 - x_1))) then (x_1 + k_9) else x_1)
      have c19 := w32_rng x_19
      refine wp_rdI (by (try dsimp only) <;> first | assumption | omega | ((try simp (disch := omega) only [w32_of, w64_of, w8_of]) <;> first | assumption | omega | (split <;> omega) | (refine And.intro ?_ ?_ <;> split <;> omega)) | omega) (by (try dsimp only) <;> first | assumption | omega | ((try simp (disch := omega) only [w32_of, w64_of, w8_of]) <;> first | assumption | omega | (split <;> omega) | (refine And.intro ?_ ?_ <;> split <;> omega)) | omega) (fun x_21 e_x_21 => ?_)
      have b_x_21 : (-1000000000) ≤ x_21 ∧ x_21 ≤ 1000000000 := by rw [e_x_21]; exact ii_kN_hotX hσ_10 _
      rw [FC_at frσ_10 (c := kN_hotX) (by first | decide | (rcases hE with rfl | rfl | rfl <;> decide))] at e_x_21
      try simp (disch := omega) only [w32_of, w64_of, w8_of] at e_x_21
      have c20 := ii_kN_hotX hσ_10 x_19
      have c21 := FC_at frσ_10 (c := kN_hotX) (by first | decide | (rcases hE with rfl | rfl | rfl <;> decide)) x_19
      have c22 := ii_kN_hotX hσ x_19
      refine wp_rdI (by (try dsimp only) <;> first | assumption | omega | ((try simp (disch := omega) only [w32_of, w64_of, w8_of]) <;> first | assumption | omega | (split <;> omega) | (refine And.intro ?_ ?_ <;> split <;> omega)) | omega) (by (try dsimp only) <;> first | assumption | omega | ((try simp (disch := omega) only [w32_of, w64_of, w8_of]) <;> first | assumption | omega | (split <;> omega) | (refine And.intro ?_ ?_ <;> split <;> omega)) | omega) (fun x_23 e_x_23 => ?_)
      have b_x_23 : (-1000000000) ≤ x_23 ∧ x_23 ≤ 1000000000 := by rw [e_x_23]; exact ii_kN_hotY hσ_10 _
      rw [FC_at frσ_10 (c := kN_hotY) (by first | decide | (rcases hE with rfl | rfl | rfl <;> decide))] at e_x_23
      try simp (disch := omega) only [w32_of, w64_of, w8_of] at e_x_23
      have c23 := ii_kN_hotY hσ_10 x_19
      have c24 := FC_at frσ_10 (c := kN_hotY) (by first | decide | (rcases hE with rfl | rfl | rfl <;> decide)) x_19
      have c25 := ii_kN_hotY hσ x_19
      refine wp_bd (v_addPoint (σ := σ_10) (this_0 := into_0) (px_0 := x_21) (py_0 := x_23) hσ_10 (by first | assumption | decide | omega) (by (try dsimp only) <;> first | assumption | omega | ((try simp (disch := omega) only [w32_of, w64_of, w8_of]) <;> first | assumption | omega | (split <;> omega) | (refine And.intro ?_ ?_ <;> split <;> omega)) | omega) (by (try dsimp only) <;> first | assumption | omega | ((try simp (disch := omega) only [w32_of, w64_of, w8_of]) <;> first | assumption | omega | (split <;> omega) | (refine And.intro ?_ ?_ <;> split <;> omega)) | omega)) ?_
      rintro ⟨x_27, σ_26⟩ - y26
      try dsimp only at y26 ⊢
      obtain ⟨hσ_26, flσ_26, hp1, hp2, hp3, hp4, hp5⟩ := y26
      have frσ_26 : FC [] [into_0] σ σ_26 := FC_tr frσ_10 flσ_26 (by first | decide | (rcases hE with rfl | rfl | rfl <;> decide)) (by first | decide | (rcases hE with rfl | rfl | rfl <;> decide)) (by simp) (by simp)
      have c27 := iiA_points (s := into_0) hσ_10 (by first | assumption | decide | omega) 0
      try simp (disch := omega) only [w32_of, w64_of, w8_of] at hp1
      try simp (disch := omega) only [w32_of, w64_of, w8_of] at hp2
      have c28 := iiA_points (s := into_0) hσ_26 (by first | assumption | decide | omega) 0
      have c29 := iiA_x (s := into_0) hσ_26 (by first | assumption | decide | omega) (σ_10 (kA_points into_0) 0)
      have c30 := iiA_y (s := into_0) hσ_26 (by first | assumption | decide | omega) (σ_10 (kA_points into_0) 0)
      try simp (disch := omega) only [w32_of, w64_of, w8_of] at hp3
      try simp (disch := omega) only [w32_of, w64_of, w8_of] at hp4
      try simp (disch := omega) only [w32_of, w64_of, w8_of] at hp5
      exact wp_some (x_inl ⟨⟨hσ_26, frσ_26, (by (try dsimp only) <;> first | assumption | omega | ((try simp (disch := omega) only [w32_of, w64_of, w8_of]) <;> first | assumption | omega | (split <;> omega) | (refine And.intro ?_ ?_ <;> split <;> omega)) | omega), (by (try dsimp only) <;> (first | (intro q9; exact ⟨q9, by omega⟩) | (intro q9; have h9 := hp3 q9; have h8 := hfi hcc.2; exact ⟨h8.1, by omega⟩))), (by (try dsimp only) <;> (first | exact ⟨rfl, rfl⟩ | exact ⟨hp4.trans hpp.1, hp5.trans hpp.2⟩))⟩, (by (try dsimp only) <;> first | assumption | omega | ((try simp (disch := omega) only [w32_of, w64_of, w8_of]) <;> first | assumption | omega | (split <;> omega) | (refine And.intro ?_ ?_ <;> split <;> omega)) | omega)⟩)
    · have hcc := c12
      try simp (disch := omega) only [w32_of, w64_of, w8_of, decide_eq_true_eq, decide_eq_false_iff_not, Bool.not_eq_true] at c12
      have c31 := iiA_points (s := into_0) hσ_10 (by first | assumption | decide | omega) 0
      exact wp_some (x_inr ⟨hσ_10, frσ_10, (by (try dsimp only) <;> (intro q9; have h8 := hfi q9; have h7 : ¬ (w32 k_9 ≤ w32 (x_3 - x_1)) := fun z => hcc ⟨z, q9⟩; rw [w32_of (x := k_9) (by omega) (by omega), w32_of (x := x_3 - x_1) (by omega) (by omega)] at h7; exact ⟨h8.1, by omega⟩)), (by (try dsimp only) <;> (exact hpp))⟩)
  rintro ⟨fits_38, k_39, σ_40⟩ _ y32
  try dsimp only at y32 ⊢
  obtain ⟨hσ_40, frσ_40, hfi, hpp⟩ := y32
  have c33 := iiA_plans (s := into_0) hσ_40 (by first | assumption | decide | omega) 0
  have c34 := iiA_points (s := into_0) hσ_40 (by first | assumption | decide | omega) 0
  have c35 := iiA_points (s := into_0) hσ (by first | assumption | decide | omega) 0
  exact wp_some ⟨hσ_40, frσ_40, (by (try dsimp only) <;> (intro q9; have h8 := hfi q9; have h7 := hr3 h8.1; exact ⟨x_3 - x_1 + 1, by omega, by rw [hpp.1]; exact h7.1, by rw [h8.2, hr4], by rw [hpp.2]; exact h7.2.1, fun i hi => by rw [hpp.2]; exact h7.2.2 i hi⟩))⟩
theorem s_G_tellPolygons {σ : SG} {into_0 : Nat} (hσ : II σ) (hs_into_0 : isS into_0) (w0 : RGs σ) (w1 : ORr σ (σ kG_rings 0) (σ kG_rings 0)) : wp_ (fG_tellPolygons σ into_0) (fun zz_ => II zz_.2 ∧ FC [] [into_0] σ zz_.2 ∧ ((zz_.1 = true) → (SHa zz_.2 into_0))) := by
  unfold fG_tellPolygons
  have c1 := ii_kG_rings hσ 0
  have hrg := ii_kG_rings hσ 0
  refine wp_bd (v_clearA (σ := σ) (this_0 := into_0) hσ (by first | assumption | decide | omega)) ?_
  rintro σ_2 - ⟨hσ_2, flσ_2, hc1, hc2⟩
  have frσ_2 : FC [] [into_0] σ σ_2 := FC_le flσ_2 (by first | decide | (rcases hE with rfl | rfl | rfl <;> decide)) (by simp)
  have c2 := iiA_plans (s := into_0) hσ_2 (by first | assumption | decide | omega) 0
  try simp (disch := omega) only [w32_of, w64_of, w8_of] at hc1
  have c3 := iiA_points (s := into_0) hσ_2 (by first | assumption | decide | omega) 0
  try simp (disch := omega) only [w32_of, w64_of, w8_of] at hc2
  refine wp_bd (v_addShape (σ := σ_2) (this_0 := into_0) (kind_0 := 6) (parts_0 := 0) hσ_2 (by first | assumption | decide | omega)) ?_
  rintro ⟨x_5, σ_4⟩ - y4
  try dsimp only at y4 ⊢
  obtain ⟨hσ_4, flσ_4, ha1, ha2, ha3, ha4, ha5, ha6⟩ := y4
  have frσ_4 : FC [] [into_0] σ σ_4 := FC_tr frσ_2 flσ_4 (by first | decide | (rcases hE with rfl | rfl | rfl <;> decide)) (by first | decide | (rcases hE with rfl | rfl | rfl <;> decide)) (by simp) (by simp)
  try simp (disch := omega) only [w32_of, w64_of, w8_of] at ha1
  try simp (disch := omega) only [w32_of, w64_of, w8_of] at ha2
  have c5 := iiA_plans (s := into_0) hσ_4 (by first | assumption | decide | omega) 0
  try simp (disch := omega) only [w32_of, w64_of, w8_of] at ha3
  try simp (disch := omega) only [w32_of, w64_of, w8_of] at ha4
  try simp (disch := omega) only [w32_of, w64_of, w8_of] at ha5
  try simp (disch := omega) only [w32_of, w64_of, w8_of] at ha6
  refine wp_bd (P := fun rr_ => II rr_.2.2 ∧ FC [] [into_0] σ rr_.2.2 ∧ ((rr_.1 = true) → (SHa rr_.2.2 into_0))) ?_ ?_
  · refine wp_whl (fun ss_ => II ss_.2.2 ∧ FC [] [into_0] σ ss_.2.2 ∧ (0 ≤ ss_.2.1 ∧ ss_.2.1 ≤ 512) ∧ ((ss_.1 = true) → (TPs ss_.2.2 into_0 ss_.2.1))) (fun ss_ => (513 - ss_.2.1).toNat) ⟨hσ_4, frσ_4, (by (try dsimp only) <;> first | assumption | omega | ((try simp (disch := omega) only [w32_of, w64_of, w8_of]) <;> first | assumption | omega | (split <;> omega) | (refine And.intro ?_ ?_ <;> split <;> omega)) | omega), (by (try dsimp only) <;> (intro q9; first | exact TP_0 hc1 hc2 (ha3 q9) ha4 | exact PP_end hσ_80 hs_into_0 (h80 q9) | exact TP_le (h8 q9) (by omega)))⟩ ?_
    rintro ⟨fits_6, i_7, σ_8⟩ y7
    try dsimp only at y7 ⊢
    obtain ⟨hσ_8, frσ_8, g6, h8⟩ := y7
    have c9 := w32_rng i_7
    have c10 := ii_kG_rings hσ_8 0
    have c11 := FC_at frσ_8 (c := kG_rings) (by first | decide | (rcases hE with rfl | rfl | rfl <;> decide)) 0
    have c12 := w32_rng (σ_8 kG_rings 0)
    refine wp_if (fun c8 => ?_) (fun c8 => ?_)
    · try simp (disch := omega) only [w32_of, w64_of, w8_of, decide_eq_true_eq, decide_eq_false_iff_not, Bool.not_eq_true] at c8
      refine wp_bd (s_G_ringInOrder (σ := σ_8) (i_0 := i_7) hσ_8 (by first | exact ORr_f frσ_8 (by decide) w1 | exact ORr_f frσ_40 (by decide) w1) (by (try dsimp only) <;> first | assumption | omega | ((try simp (disch := omega) only [w32_of, w64_of, w8_of]) <;> first | assumption | omega | (split <;> omega) | (refine And.intro ?_ ?_ <;> split <;> omega)) | omega)) ?_
      rintro x_17 - ho17
      try simp (disch := omega) only [w32_of, w64_of, w8_of] at ho17
      refine wp_bd (s_G_isShell (σ := σ_8) (ring_0 := x_17) hσ_8 (by (try dsimp only) <;> first | assumption | omega | ((try simp (disch := omega) only [w32_of, w64_of, w8_of]) <;> first | assumption | omega | (split <;> omega) | (refine And.intro ?_ ?_ <;> split <;> omega)) | omega)) ?_
      rintro x_19 - -
      refine wp_if (fun c14 => ?_) (fun c14 => ?_)
      · try simp (disch := omega) only [w32_of, w64_of, w8_of, decide_eq_true_eq, decide_eq_false_iff_not, Bool.not_eq_true] at c14
        refine wp_rdI (by (try dsimp only) <;> first | assumption | omega | ((try simp (disch := omega) only [w32_of, w64_of, w8_of]) <;> first | assumption | omega | (split <;> omega) | (refine And.intro ?_ ?_ <;> split <;> omega)) | omega) (by (try dsimp only) <;> first | assumption | omega | ((try simp (disch := omega) only [w32_of, w64_of, w8_of]) <;> first | assumption | omega | (split <;> omega) | (refine And.intro ?_ ?_ <;> split <;> omega)) | omega) (fun x_21 e_x_21 => ?_)
        try simp (disch := omega) only [w32_of, w64_of, w8_of] at e_x_21
        refine wp_waN hσ_8 (bA_plan (s := into_0) (by first | assumption | decide | omega)) (by (try dsimp only) <;> first | assumption | omega | ((try simp (disch := omega) only [w32_of, w64_of, w8_of]) <;> first | assumption | omega | (split <;> omega) | (refine And.intro ?_ ?_ <;> split <;> omega)) | omega) (by (try dsimp only) <;> first | assumption | omega | ((try simp (disch := omega) only [w32_of, w64_of, w8_of]) <;> first | assumption | omega | (split <;> omega) | (refine And.intro ?_ ?_ <;> split <;> omega)) | omega) (fun σ_23 hσ_23 eσ_23 => ?_)
        try simp (disch := omega) only [w32_of, w64_of, w8_of] at eσ_23
        have flσ_23 := FS_plan eσ_23 (by first | assumption | decide | omega)
        have frσ_23 : FC [] [into_0] σ σ_23 := FC_tr frσ_8 flσ_23 (by first | decide | (rcases hE with rfl | rfl | rfl <;> decide)) (by first | decide | (rcases hE with rfl | rfl | rfl <;> decide)) (by simp) (by simp)
        have h23 := TP_inc (h8 (by first | assumption | simp_all)) (by omega) e_x_21 eσ_23
        refine wp_bd (P := fun rr_ => II rr_.2 ∧ FC [] [into_0] σ rr_.2 ∧ ((rr_.1 = true) → (PPs rr_.2 into_0 (σ_23 (kA_plans into_0) 0) (i_7 + 1)))) ?_ ?_
        · refine wp_bd (v_addShape (σ := σ_23) (this_0 := into_0) (kind_0 := 3) (parts_0 := 1) hσ_23 (by first | assumption | decide | omega)) ?_
          rintro ⟨x_27, σ_26⟩ - y15
          try dsimp only at y15 ⊢
          obtain ⟨hσ_26, flσ_26, hb1, hb2, hb3, hb4, hb5, hb6⟩ := y15
          have frσ_26 : FC [] [into_0] σ σ_26 := FC_tr frσ_23 flσ_26 (by first | decide | (rcases hE with rfl | rfl | rfl <;> decide)) (by first | decide | (rcases hE with rfl | rfl | rfl <;> decide)) (by simp) (by simp)
          have c16 := iiA_plans (s := into_0) hσ_23 (by first | assumption | decide | omega) 0
          have c17 := (congrFun (congrFun eσ_23 (kA_plans into_0)) 0).trans (sg_nc (ncA_plans_plan _))
          have c18 := iiA_plans (s := into_0) hσ_8 (by first | assumption | decide | omega) 0
          try simp (disch := omega) only [w32_of, w64_of, w8_of] at hb1
          try simp (disch := omega) only [w32_of, w64_of, w8_of] at hb2
          have c19 := iiA_plans (s := into_0) hσ_26 (by first | assumption | decide | omega) 0
          try simp (disch := omega) only [w32_of, w64_of, w8_of] at hb3
          try simp (disch := omega) only [w32_of, w64_of, w8_of] at hb4
          try simp (disch := omega) only [w32_of, w64_of, w8_of] at hb5
          try simp (disch := omega) only [w32_of, w64_of, w8_of] at hb6
          refine wp_if (fun c20 => ?_) (fun c20 => ?_)
          · have k21 := hb1.mp c20
            try simp (disch := omega) only [w32_of, w64_of, w8_of] at k21
            have k23 := hb3 c20
            try simp (disch := omega) only [w32_of, w64_of, w8_of] at k23
            try simp (disch := omega) only [w32_of, w64_of, w8_of, decide_eq_true_eq, decide_eq_false_iff_not, Bool.not_eq_true] at c20
            have c24 := ii_kG_rings hσ_26 0
            have c25 := FC_at flσ_26 (c := kG_rings) (by first | decide | (rcases hE with rfl | rfl | rfl <;> decide)) 0
            have c26 := ii_kG_rings hσ_23 0
            have c27 := FC_at flσ_23 (c := kG_rings) (by first | decide | (rcases hE with rfl | rfl | rfl <;> decide)) 0
            refine wp_bd (s_G_tellRing (σ := σ_26) (into_0 := into_0) (ring_0 := x_17) hσ_26 (by first | assumption | decide | omega) (RGs_f flσ_26 (by decide) (RGs_f flσ_23 (by decide) (RGs_f frσ_8 (by decide) w0))) (by (try dsimp only) <;> first | assumption | omega | ((try simp (disch := omega) only [w32_of, w64_of, w8_of]) <;> first | assumption | omega | (split <;> omega) | (refine And.intro ?_ ?_ <;> split <;> omega)) | omega)) ?_
            rintro ⟨x_31, σ_30⟩ - y28
            try dsimp only at y28 ⊢
            obtain ⟨hσ_30, flσ_30, ht⟩ := y28
            have frσ_30 : FC [] [into_0] σ σ_30 := FC_tr frσ_26 flσ_30 (by first | decide | (rcases hE with rfl | rfl | rfl <;> decide)) (by first | decide | (rcases hE with rfl | rfl | rfl <;> decide)) (by simp) (by simp)
            have c29 := iiA_plans (s := into_0) hσ_30 (by first | assumption | decide | omega) 0
            have c30 := iiA_points (s := into_0) hσ_30 (by first | assumption | decide | omega) 0
            have c31 := iiA_points (s := into_0) hσ_26 (by first | assumption | decide | omega) 0
            try simp (disch := omega) only [w32_of, w64_of, w8_of] at ht
            refine wp_if (fun c32 => ?_) (fun c32 => ?_)
            · have k33 := ht c32
              try simp (disch := omega) only [w32_of, w64_of, w8_of] at k33
              try simp (disch := omega) only [w32_of, w64_of, w8_of, decide_eq_true_eq, decide_eq_false_iff_not, Bool.not_eq_true] at c32
              exact wp_some ⟨hσ_30, frσ_30, (by (try dsimp only) <;> (intro q9; first | exact absurd q9 (by decide) | exact TP_poly h23 (hb3 (by assumption)) hb4 (ht (by assumption))))⟩
            · try simp (disch := omega) only [w32_of, w64_of, w8_of, decide_eq_true_eq, decide_eq_false_iff_not, Bool.not_eq_true] at c32
              exact wp_some ⟨hσ_30, frσ_30, (fun q => (by cases q))⟩
          · have k35 := fun q => c20 (hb1.mpr q)
            try simp (disch := omega) only [w32_of, w64_of, w8_of] at k35
            have k36 := hb2 (Bool.eq_false_iff.mpr c20)
            try simp (disch := omega) only [w32_of, w64_of, w8_of] at k36
            try simp (disch := omega) only [w32_of, w64_of, w8_of, decide_eq_true_eq, decide_eq_false_iff_not, Bool.not_eq_true] at c20
            exact wp_some ⟨hσ_26, frσ_26, (fun q => (by cases q))⟩
        rintro ⟨x_36, σ_37⟩ _ y38
        try dsimp only at y38 ⊢
        obtain ⟨hσ_37, frσ_37, h37⟩ := y38
        refine wp_bd (P := fun rr_ => II rr_.2.2 ∧ FC [] [into_0] σ rr_.2.2 ∧ ((rr_.1 = true) → (PPs rr_.2.2 into_0 (σ_23 (kA_plans into_0) 0) (i_7 + 1)))) ?_ ?_
        · have c39 := iiA_plans (s := into_0) hσ_23 (by first | assumption | decide | omega) 0
          have c40 := (congrFun (congrFun eσ_23 (kA_plans into_0)) 0).trans (sg_nc (ncA_plans_plan _))
          have c41 := iiA_plans (s := into_0) hσ_8 (by first | assumption | decide | omega) 0
          refine wp_whl (fun ss_ => II ss_.2.2 ∧ FC [] [into_0] σ ss_.2.2 ∧ (0 ≤ ss_.2.1 ∧ ss_.2.1 ≤ 512) ∧ ((ss_.1 = true) → (PPs ss_.2.2 into_0 (σ_23 (kA_plans into_0) 0) (i_7 + 1)))) (fun ss_ => (513 - ss_.2.1).toNat) ⟨hσ_37, frσ_37, (by (try dsimp only) <;> first | assumption | omega | ((try simp (disch := omega) only [w32_of, w64_of, w8_of]) <;> first | assumption | omega | (split <;> omega) | (refine And.intro ?_ ?_ <;> split <;> omega)) | omega), (by (try dsimp only) <;> (intro q9; first | exact h37 q9 | exact h67 q9))⟩ ?_
          rintro ⟨fits_38, k_39, σ_40⟩ y43
          try dsimp only at y43 ⊢
          obtain ⟨hσ_40, frσ_40, g42, h40⟩ := y43
          have c45 := w32_rng k_39
          have c46 := ii_kG_rings hσ_40 0
          have c47 := FC_at frσ_40 (c := kG_rings) (by first | decide | (rcases hE with rfl | rfl | rfl <;> decide)) 0
          have c48 := w32_rng (σ_40 kG_rings 0)
          refine wp_if (fun c44 => ?_) (fun c44 => ?_)
          · try simp (disch := omega) only [w32_of, w64_of, w8_of, decide_eq_true_eq, decide_eq_false_iff_not, Bool.not_eq_true] at c44
            refine wp_bd (s_G_ringInOrder (σ := σ_40) (i_0 := k_39) hσ_40 (by first | exact ORr_f frσ_8 (by decide) w1 | exact ORr_f frσ_40 (by decide) w1) (by (try dsimp only) <;> first | assumption | omega | ((try simp (disch := omega) only [w32_of, w64_of, w8_of]) <;> first | assumption | omega | (split <;> omega) | (refine And.intro ?_ ?_ <;> split <;> omega)) | omega)) ?_
            rintro x_49 - ho49
            try simp (disch := omega) only [w32_of, w64_of, w8_of] at ho49
            have h40b := h40 (by first | assumption | simp_all)
            have hpl := PP_le hσ_40 hs_into_0 h40b
            refine wp_bd (P := fun rr_ => II rr_.2 ∧ FC [] [into_0] σ rr_.2 ∧ ((rr_.1 = true) → (PPs rr_.2 into_0 (σ_23 (kA_plans into_0) 0) (i_7 + 1)))) ?_ ?_
            · have c49 := w32_rng x_49
              refine wp_rdI (by (try dsimp only) <;> first | assumption | omega | ((try simp (disch := omega) only [w32_of, w64_of, w8_of]) <;> first | assumption | omega | (split <;> omega) | (refine And.intro ?_ ?_ <;> split <;> omega)) | omega) (by (try dsimp only) <;> first | assumption | omega | ((try simp (disch := omega) only [w32_of, w64_of, w8_of]) <;> first | assumption | omega | (split <;> omega) | (refine And.intro ?_ ?_ <;> split <;> omega)) | omega) (fun x_54 e_x_54 => ?_)
              have b_x_54 : (-1) ≤ x_54 ∧ x_54 ≤ 511 := by rw [e_x_54]; exact ii_kG_shellOf hσ_40 _
              rw [FC_at frσ_40 (c := kG_shellOf) (by first | decide | (rcases hE with rfl | rfl | rfl <;> decide))] at e_x_54
              try simp (disch := omega) only [w32_of, w64_of, w8_of] at e_x_54
              have c50 := ii_kG_shellOf hσ_40 x_49
              have c51 := FC_at frσ_40 (c := kG_shellOf) (by first | decide | (rcases hE with rfl | rfl | rfl <;> decide)) x_49
              have c52 := ii_kG_shellOf hσ x_49
              have c54 := w32_rng x_54
              have c55 := w32_rng x_17
              refine wp_if (fun c53 => ?_) (fun c53 => ?_)
              · try simp (disch := omega) only [w32_of, w64_of, w8_of, decide_eq_true_eq, decide_eq_false_iff_not, Bool.not_eq_true] at c53
                have c56 := w32_rng ((σ_23 (kA_plans into_0) 0) + 1)
                refine wp_rdI (by (try dsimp only) <;> first | assumption | omega | ((try simp (disch := omega) only [w32_of, w64_of, w8_of]) <;> first | assumption | omega | (split <;> omega) | (refine And.intro ?_ ?_ <;> split <;> omega)) | omega) (by (try dsimp only) <;> first | assumption | omega | ((try simp (disch := omega) only [w32_of, w64_of, w8_of]) <;> first | assumption | omega | (split <;> omega) | (refine And.intro ?_ ?_ <;> split <;> omega)) | omega) (fun x_57 e_x_57 => ?_)
                try simp (disch := omega) only [w32_of, w64_of, w8_of] at e_x_57
                refine wp_waN hσ_40 (bA_plan (s := into_0) (by first | assumption | decide | omega)) (by (try dsimp only) <;> first | assumption | omega | ((try simp (disch := omega) only [w32_of, w64_of, w8_of]) <;> first | assumption | omega | (split <;> omega) | (refine And.intro ?_ ?_ <;> split <;> omega)) | omega) (by (try dsimp only) <;> first | assumption | omega | ((try simp (disch := omega) only [w32_of, w64_of, w8_of]) <;> first | assumption | omega | (split <;> omega) | (refine And.intro ?_ ?_ <;> split <;> omega)) | omega) (fun σ_59 hσ_59 eσ_59 => ?_)
                try simp (disch := omega) only [w32_of, w64_of, w8_of] at eσ_59
                have flσ_59 := FS_plan eσ_59 (by first | assumption | decide | omega)
                have frσ_59 : FC [] [into_0] σ σ_59 := FC_tr frσ_40 flσ_59 (by first | decide | (rcases hE with rfl | rfl | rfl <;> decide)) (by first | decide | (rcases hE with rfl | rfl | rfl <;> decide)) (by simp) (by simp)
                have c57 := ii_kG_rings hσ_59 0
                have c58 := FC_at flσ_59 (c := kG_rings) (by first | decide | (rcases hE with rfl | rfl | rfl <;> decide)) 0
                refine wp_bd (s_G_tellRing (σ := σ_59) (into_0 := into_0) (ring_0 := x_49) hσ_59 (by first | assumption | decide | omega) (RGs_f flσ_59 (by decide) (RGs_f frσ_40 (by decide) w0)) (by (try dsimp only) <;> first | assumption | omega | ((try simp (disch := omega) only [w32_of, w64_of, w8_of]) <;> first | assumption | omega | (split <;> omega) | (refine And.intro ?_ ?_ <;> split <;> omega)) | omega)) ?_
                rintro ⟨x_63, σ_62⟩ - y59
                try dsimp only at y59 ⊢
                obtain ⟨hσ_62, flσ_62, hu⟩ := y59
                have frσ_62 : FC [] [into_0] σ σ_62 := FC_tr frσ_59 flσ_62 (by first | decide | (rcases hE with rfl | rfl | rfl <;> decide)) (by first | decide | (rcases hE with rfl | rfl | rfl <;> decide)) (by simp) (by simp)
                have c60 := iiA_plans (s := into_0) hσ_62 (by first | assumption | decide | omega) 0
                have c61 := iiA_plans (s := into_0) hσ_59 (by first | assumption | decide | omega) 0
                have c62 := (congrFun (congrFun eσ_59 (kA_plans into_0)) 0).trans (sg_nc (ncA_plans_plan _))
                have c63 := iiA_plans (s := into_0) hσ_40 (by first | assumption | decide | omega) 0
                have c64 := iiA_points (s := into_0) hσ_62 (by first | assumption | decide | omega) 0
                have c65 := iiA_points (s := into_0) hσ_59 (by first | assumption | decide | omega) 0
                have c66 := (congrFun (congrFun eσ_59 (kA_points into_0)) 0).trans (sg_nc (ncA_points_plan _))
                have c67 := iiA_points (s := into_0) hσ_40 (by first | assumption | decide | omega) 0
                try simp (disch := omega) only [w32_of, w64_of, w8_of] at hu
                exact wp_some ⟨hσ_62, frσ_62, (by (try dsimp only) <;> (intro q9; first | exact h40b | exact PP_ring h40b e_x_57 eσ_59 (hu q9)))⟩
              · try simp (disch := omega) only [w32_of, w64_of, w8_of, decide_eq_true_eq, decide_eq_false_iff_not, Bool.not_eq_true] at c53
                exact wp_some ⟨hσ_40, frσ_40, (by (try dsimp only) <;> (intro q9; first | exact h40b | exact PP_ring h40b e_x_57 eσ_59 (hu q9)))⟩
            rintro ⟨fits_66, σ_67⟩ _ y68
            try dsimp only at y68 ⊢
            obtain ⟨hσ_67, frσ_67, h67⟩ := y68
            exact wp_some (x_inl ⟨⟨hσ_67, frσ_67, (by (try dsimp only) <;> first | assumption | omega | ((try simp (disch := omega) only [w32_of, w64_of, w8_of]) <;> first | assumption | omega | (split <;> omega) | (refine And.intro ?_ ?_ <;> split <;> omega)) | omega), (by (try dsimp only) <;> (intro q9; first | exact h37 q9 | exact h67 q9))⟩, (by (try dsimp only) <;> first | assumption | omega | ((try simp (disch := omega) only [w32_of, w64_of, w8_of]) <;> first | assumption | omega | (split <;> omega) | (refine And.intro ?_ ?_ <;> split <;> omega)) | omega)⟩)
          · try simp (disch := omega) only [w32_of, w64_of, w8_of, decide_eq_true_eq, decide_eq_false_iff_not, Bool.not_eq_true] at c44
            exact wp_some (x_inr ⟨hσ_40, frσ_40, (by (try dsimp only) <;> (exact h40))⟩)
        rintro ⟨fits_78, k_79, σ_80⟩ _ y69
        try dsimp only at y69 ⊢
        obtain ⟨hσ_80, frσ_80, h80⟩ := y69
        exact wp_some (x_inl ⟨⟨hσ_80, frσ_80, (by (try dsimp only) <;> first | assumption | omega | ((try simp (disch := omega) only [w32_of, w64_of, w8_of]) <;> first | assumption | omega | (split <;> omega) | (refine And.intro ?_ ?_ <;> split <;> omega)) | omega), (by (try dsimp only) <;> (intro q9; first | exact TP_0 hc1 hc2 (ha3 q9) ha4 | exact PP_end hσ_80 hs_into_0 (h80 q9) | exact TP_le (h8 q9) (by omega)))⟩, (by (try dsimp only) <;> first | assumption | omega | ((try simp (disch := omega) only [w32_of, w64_of, w8_of]) <;> first | assumption | omega | (split <;> omega) | (refine And.intro ?_ ?_ <;> split <;> omega)) | omega)⟩)
      · try simp (disch := omega) only [w32_of, w64_of, w8_of, decide_eq_true_eq, decide_eq_false_iff_not, Bool.not_eq_true] at c14
        exact wp_some (x_inl ⟨⟨hσ_8, frσ_8, (by (try dsimp only) <;> first | assumption | omega | ((try simp (disch := omega) only [w32_of, w64_of, w8_of]) <;> first | assumption | omega | (split <;> omega) | (refine And.intro ?_ ?_ <;> split <;> omega)) | omega), (by (try dsimp only) <;> (intro q9; first | exact TP_0 hc1 hc2 (ha3 q9) ha4 | exact PP_end hσ_80 hs_into_0 (h80 q9) | exact TP_le (h8 q9) (by omega)))⟩, (by (try dsimp only) <;> first | assumption | omega | ((try simp (disch := omega) only [w32_of, w64_of, w8_of]) <;> first | assumption | omega | (split <;> omega) | (refine And.intro ?_ ?_ <;> split <;> omega)) | omega)⟩)
    · try simp (disch := omega) only [w32_of, w64_of, w8_of, decide_eq_true_eq, decide_eq_false_iff_not, Bool.not_eq_true] at c8
      exact wp_some (x_inr ⟨hσ_8, frσ_8, (by (try dsimp only) <;> (intro q9; exact TP_end (h8 q9)))⟩)
  rintro ⟨fits_96, i_97, σ_98⟩ _ y70
  try dsimp only at y70 ⊢
  obtain ⟨hσ_98, frσ_98, h98⟩ := y70
  exact wp_some ⟨hσ_98, frσ_98, (by (try dsimp only) <;> (exact h98))⟩
theorem s_G_make {σ : SG} {way_0 : Int} {into_0 : Nat} (hσ : II σ) (hs_into_0 : isS into_0) (w0 : PFs σ (σ kN_hot 0)) (w1 : 0 ≤ way_0 ∧ way_0 ≤ 4) : wp_ (fG_make σ way_0 into_0) (fun zz_ => II zz_.2 ∧ FC [kG_above, kG_active, kG_actives, kG_begin, kG_corner, kG_corners, kG_goesBack, kG_incident, kG_isBoundary, kG_onPath, kG_order, kG_path, kG_ringArea, kG_ringBegin, kG_rings, kG_shellOf] [into_0] σ zz_.2 ∧ ((zz_.1 = true) → (SHa zz_.2 into_0))) := by
  unfold fG_make
  have c1 := ii_kN_hot hσ 0
  refine wp_bd (s_G_sweep (σ := σ) hσ) ?_
  rintro σ_2 - ⟨hσ_2, flσ_2⟩
  have frσ_2 : FC [kG_above, kG_active, kG_actives, kG_begin, kG_corner, kG_corners, kG_goesBack, kG_incident, kG_isBoundary, kG_onPath, kG_order, kG_path, kG_ringArea, kG_ringBegin, kG_rings, kG_shellOf] [into_0] σ σ_2 := FC_le flσ_2 (by first | decide | (rcases hE with rfl | rfl | rfl <;> decide)) (by simp)
  refine wp_bd (s_G_markBoundary (σ := σ_2) (way_0 := way_0) hσ_2 (by (try dsimp only) <;> first | assumption | omega | ((try simp (disch := omega) only [w32_of, w64_of, w8_of]) <;> first | assumption | omega | (split <;> omega) | (refine And.intro ?_ ?_ <;> split <;> omega)) | omega)) ?_
  rintro σ_4 - ⟨hσ_4, flσ_4r⟩
  have flσ_4 := FC_of flσ_4r (by decide)
  have frσ_4 : FC [kG_above, kG_active, kG_actives, kG_begin, kG_corner, kG_corners, kG_goesBack, kG_incident, kG_isBoundary, kG_onPath, kG_order, kG_path, kG_ringArea, kG_ringBegin, kG_rings, kG_shellOf] [into_0] σ σ_4 := FC_tr frσ_2 flσ_4 (by first | decide | (rcases hE with rfl | rfl | rfl <;> decide)) (by first | decide | (rcases hE with rfl | rfl | rfl <;> decide)) (by simp) (by simp)
  have c2 := ii_kN_hot hσ_4 0
  have c3 := FC_at flσ_4 (c := kN_hot) (by first | decide | (rcases hE with rfl | rfl | rfl <;> decide)) 0
  have c4 := ii_kN_hot hσ_2 0
  have c5 := FC_at flσ_2 (c := kN_hot) (by first | decide | (rcases hE with rfl | rfl | rfl <;> decide)) 0
  refine wp_bd (s_G_listIncident (σ := σ_4) hσ_4 (by rw [FC_at frσ_4 (c := kN_hot) (by decide)]; exact PFs_f frσ_4 (by decide) w0)) ?_
  rintro σ_6 - ⟨hσ_6, flσ_6⟩
  have frσ_6 : FC [kG_above, kG_active, kG_actives, kG_begin, kG_corner, kG_corners, kG_goesBack, kG_incident, kG_isBoundary, kG_onPath, kG_order, kG_path, kG_ringArea, kG_ringBegin, kG_rings, kG_shellOf] [into_0] σ σ_6 := FC_tr frσ_4 flσ_6 (by first | decide | (rcases hE with rfl | rfl | rfl <;> decide)) (by first | decide | (rcases hE with rfl | rfl | rfl <;> decide)) (by simp) (by simp)
  refine wp_bd (s_G_traceRings (σ := σ_6) hσ_6) ?_
  rintro ⟨x_9, σ_8⟩ - y6
  try dsimp only at y6 ⊢
  obtain ⟨hσ_8, flσ_8, htr⟩ := y6
  have frσ_8 : FC [kG_above, kG_active, kG_actives, kG_begin, kG_corner, kG_corners, kG_goesBack, kG_incident, kG_isBoundary, kG_onPath, kG_order, kG_path, kG_ringArea, kG_ringBegin, kG_rings, kG_shellOf] [into_0] σ σ_8 := FC_tr frσ_6 flσ_8 (by first | decide | (rcases hE with rfl | rfl | rfl <;> decide)) (by first | decide | (rcases hE with rfl | rfl | rfl <;> decide)) (by simp) (by simp)
  try simp (disch := omega) only [w32_of, w64_of, w8_of] at htr
  refine wp_if (fun c7 => ?_) (fun c7 => ?_)
  · have k8 := htr c7
    try simp (disch := omega) only [w32_of, w64_of, w8_of] at k8
    try simp (disch := omega) only [w32_of, w64_of, w8_of, decide_eq_true_eq, decide_eq_false_iff_not, Bool.not_eq_true] at c7
    refine wp_bd (s_G_giveHolesToShells (σ := σ_8) hσ_8) ?_
    rintro σ_12 - ⟨hσ_12, flσ_12⟩
    have frσ_12 : FC [kG_above, kG_active, kG_actives, kG_begin, kG_corner, kG_corners, kG_goesBack, kG_incident, kG_isBoundary, kG_onPath, kG_order, kG_path, kG_ringArea, kG_ringBegin, kG_rings, kG_shellOf] [into_0] σ σ_12 := FC_tr frσ_8 flσ_12 (by first | decide | (rcases hE with rfl | rfl | rfl <;> decide)) (by first | decide | (rcases hE with rfl | rfl | rfl <;> decide)) (by simp) (by simp)
    refine wp_bd (s_G_sortRings (σ := σ_12) hσ_12 (by exact RGs_f flσ_12 (by decide) (htr (by assumption)))) ?_
    rintro σ_14 - ⟨hσ_14, flσ_14, hso⟩
    have frσ_14 : FC [kG_above, kG_active, kG_actives, kG_begin, kG_corner, kG_corners, kG_goesBack, kG_incident, kG_isBoundary, kG_onPath, kG_order, kG_path, kG_ringArea, kG_ringBegin, kG_rings, kG_shellOf] [into_0] σ σ_14 := FC_tr frσ_12 flσ_14 (by first | decide | (rcases hE with rfl | rfl | rfl <;> decide)) (by first | decide | (rcases hE with rfl | rfl | rfl <;> decide)) (by simp) (by simp)
    have c9 := ii_kG_rings hσ_12 0
    have c10 := FC_at flσ_12 (c := kG_rings) (by first | decide | (rcases hE with rfl | rfl | rfl <;> decide)) 0
    have c11 := ii_kG_rings hσ_8 0
    try simp (disch := omega) only [w32_of, w64_of, w8_of] at hso
    have c12 := ii_kG_rings hσ_14 0
    have c13 := FC_at flσ_14 (c := kG_rings) (by first | decide | (rcases hE with rfl | rfl | rfl <;> decide)) 0
    refine wp_bd (s_G_tellPolygons (σ := σ_14) (into_0 := into_0) hσ_14 (by first | assumption | decide | omega) (by exact RGs_f flσ_14 (by decide) (RGs_f flσ_12 (by decide) (htr (by assumption)))) (by rw [FC_at flσ_14 (c := kG_rings) (by decide)]; exact hso)) ?_
    rintro ⟨x_17, σ_16⟩ - y14
    try dsimp only at y14 ⊢
    obtain ⟨hσ_16, flσ_16, htp⟩ := y14
    have frσ_16 : FC [kG_above, kG_active, kG_actives, kG_begin, kG_corner, kG_corners, kG_goesBack, kG_incident, kG_isBoundary, kG_onPath, kG_order, kG_path, kG_ringArea, kG_ringBegin, kG_rings, kG_shellOf] [into_0] σ σ_16 := FC_tr frσ_14 flσ_16 (by first | decide | (rcases hE with rfl | rfl | rfl <;> decide)) (by first | decide | (rcases hE with rfl | rfl | rfl <;> decide)) (by simp) (by simp)
    try simp (disch := omega) only [w32_of, w64_of, w8_of] at htp
    exact wp_some ⟨hσ_16, frσ_16, (by (try dsimp only) <;> (intro q9; first | exact absurd q9 (by decide) | exact htp q9))⟩
  · try simp (disch := omega) only [w32_of, w64_of, w8_of, decide_eq_true_eq, decide_eq_false_iff_not, Bool.not_eq_true] at c7
    exact wp_some ⟨hσ_8, frσ_8, (fun q => (by cases q))⟩
