theorem s_J_isEmpty {σ : SG} {part_0 : Int} (hσ : II σ) (w0 : 0 ≤ part_0 ∧ part_0 ≤ 2047) : wp_ (fJ_isEmpty σ part_0) (fun zz_ => ((zz_ = false) → (σ kJ_partBegin part_0 < σ kJ_partEnd part_0))) := by
  unfold fJ_isEmpty
  refine wp_bdk ?_
  have c1 := w32_rng part_0
  refine wp_rdI (by (try dsimp only) <;> first | assumption | omega | ((try simp (disch := omega) only [w32_of, w64_of, w8_of]) <;> first | assumption | omega | (split <;> omega) | (refine And.intro ?_ ?_ <;> split <;> omega)) | omega) (by (try dsimp only) <;> first | assumption | omega | ((try simp (disch := omega) only [w32_of, w64_of, w8_of]) <;> first | assumption | omega | (split <;> omega) | (refine And.intro ?_ ?_ <;> split <;> omega)) | omega) (fun x_1 e_x_1 => ?_)
  have b_x_1 : 0 ≤ x_1 ∧ x_1 ≤ 2048 := by rw [e_x_1]; exact ii_kJ_partBegin hσ _
  try simp (disch := omega) only [w32_of, w64_of, w8_of] at e_x_1
  have c2 := ii_kJ_partBegin hσ part_0
  refine wp_rdI (by (try dsimp only) <;> first | assumption | omega | ((try simp (disch := omega) only [w32_of, w64_of, w8_of]) <;> first | assumption | omega | (split <;> omega) | (refine And.intro ?_ ?_ <;> split <;> omega)) | omega) (by (try dsimp only) <;> first | assumption | omega | ((try simp (disch := omega) only [w32_of, w64_of, w8_of]) <;> first | assumption | omega | (split <;> omega) | (refine And.intro ?_ ?_ <;> split <;> omega)) | omega) (fun x_3 e_x_3 => ?_)
  have b_x_3 : 0 ≤ x_3 ∧ x_3 ≤ 2048 := by rw [e_x_3]; exact ii_kJ_partEnd hσ _
  try simp (disch := omega) only [w32_of, w64_of, w8_of] at e_x_3
  have c3 := ii_kJ_partEnd hσ part_0
  have c5 := w32_rng x_3
  have c6 := w32_rng x_1
  refine wp_if (fun c4 => ?_) (fun c4 => ?_)
  · try simp (disch := omega) only [w32_of, w64_of, w8_of, decide_eq_true_eq, decide_eq_false_iff_not, Bool.not_eq_true] at c4
    refine wp_somek ?_
    try dsimp only
    exact wp_some (fun q => (by cases q))
  · try simp (disch := omega) only [w32_of, w64_of, w8_of, decide_eq_true_eq, decide_eq_false_iff_not, Bool.not_eq_true] at c4
    refine wp_somek ?_
    try dsimp only
    exact wp_some (by intro q9; (try dsimp only) <;> first | assumption | omega | ((try simp (disch := omega) only [w32_of, w64_of, w8_of]) <;> first | assumption | omega | (split <;> omega) | (refine And.intro ?_ ?_ <;> split <;> omega)) | omega)
theorem s_J_isInsideBehindBegin {σ : SG} {ring_0 : Int} {i_0 : Int} (hσ : II σ) (w0 : 0 ≤ ring_0 ∧ ring_0 ≤ 2047) (w1 : 0 ≤ i_0 ∧ i_0 ≤ 2047) : wp_ (fJ_isInsideBehindBegin σ ring_0 i_0) (fun zz_ => True) := by
  unfold fJ_isInsideBehindBegin
  have c1 := w32_rng i_0
  refine wp_rdI (by (try dsimp only) <;> first | assumption | omega | ((try simp (disch := omega) only [w32_of, w64_of, w8_of]) <;> first | assumption | omega | (split <;> omega) | (refine And.intro ?_ ?_ <;> split <;> omega)) | omega) (by (try dsimp only) <;> first | assumption | omega | ((try simp (disch := omega) only [w32_of, w64_of, w8_of]) <;> first | assumption | omega | (split <;> omega) | (refine And.intro ?_ ?_ <;> split <;> omega)) | omega) (fun x_1 e_x_1 => ?_)
  have b_x_1 : (-1000000000) ≤ x_1 ∧ x_1 ≤ 1000000000 := by rw [e_x_1]; exact iiE_ax (s := 179) hσ (by decide) _
  try simp (disch := omega) only [w32_of, w64_of, w8_of] at e_x_1
  have c2 : (-1000000000) ≤ σ 46080 i_0 ∧ σ 46080 i_0 ≤ 1000000000 := iiE_ax (s := 179) hσ (by decide) i_0
  refine wp_rdI (by (try dsimp only) <;> first | assumption | omega | ((try simp (disch := omega) only [w32_of, w64_of, w8_of]) <;> first | assumption | omega | (split <;> omega) | (refine And.intro ?_ ?_ <;> split <;> omega)) | omega) (by (try dsimp only) <;> first | assumption | omega | ((try simp (disch := omega) only [w32_of, w64_of, w8_of]) <;> first | assumption | omega | (split <;> omega) | (refine And.intro ?_ ?_ <;> split <;> omega)) | omega) (fun x_3 e_x_3 => ?_)
  have b_x_3 : (-1000000000) ≤ x_3 ∧ x_3 ≤ 1000000000 := by rw [e_x_3]; exact iiE_ay (s := 179) hσ (by decide) _
  try simp (disch := omega) only [w32_of, w64_of, w8_of] at e_x_3
  have c3 : (-1000000000) ≤ σ 46336 i_0 ∧ σ 46336 i_0 ≤ 1000000000 := iiE_ay (s := 179) hσ (by decide) i_0
  refine wp_rdI (by (try dsimp only) <;> first | assumption | omega | ((try simp (disch := omega) only [w32_of, w64_of, w8_of]) <;> first | assumption | omega | (split <;> omega) | (refine And.intro ?_ ?_ <;> split <;> omega)) | omega) (by (try dsimp only) <;> first | assumption | omega | ((try simp (disch := omega) only [w32_of, w64_of, w8_of]) <;> first | assumption | omega | (split <;> omega) | (refine And.intro ?_ ?_ <;> split <;> omega)) | omega) (fun x_5 e_x_5 => ?_)
  have b_x_5 : (-1000000000) ≤ x_5 ∧ x_5 ≤ 1000000000 := by rw [e_x_5]; exact iiE_bx (s := 179) hσ (by decide) _
  try simp (disch := omega) only [w32_of, w64_of, w8_of] at e_x_5
  have c4 : (-1000000000) ≤ σ 46592 i_0 ∧ σ 46592 i_0 ≤ 1000000000 := iiE_bx (s := 179) hσ (by decide) i_0
  refine wp_rdI (by (try dsimp only) <;> first | assumption | omega | ((try simp (disch := omega) only [w32_of, w64_of, w8_of]) <;> first | assumption | omega | (split <;> omega) | (refine And.intro ?_ ?_ <;> split <;> omega)) | omega) (by (try dsimp only) <;> first | assumption | omega | ((try simp (disch := omega) only [w32_of, w64_of, w8_of]) <;> first | assumption | omega | (split <;> omega) | (refine And.intro ?_ ?_ <;> split <;> omega)) | omega) (fun x_7 e_x_7 => ?_)
  have b_x_7 : (-1000000000) ≤ x_7 ∧ x_7 ≤ 1000000000 := by rw [e_x_7]; exact iiE_by (s := 179) hσ (by decide) _
  try simp (disch := omega) only [w32_of, w64_of, w8_of] at e_x_7
  have c5 : (-1000000000) ≤ σ 46848 i_0 ∧ σ 46848 i_0 ≤ 1000000000 := iiE_by (s := 179) hσ (by decide) i_0
  have c6 := w32_rng ring_0
  refine wp_rdI (by (try dsimp only) <;> first | assumption | omega | ((try simp (disch := omega) only [w32_of, w64_of, w8_of]) <;> first | assumption | omega | (split <;> omega) | (refine And.intro ?_ ?_ <;> split <;> omega)) | omega) (by (try dsimp only) <;> first | assumption | omega | ((try simp (disch := omega) only [w32_of, w64_of, w8_of]) <;> first | assumption | omega | (split <;> omega) | (refine And.intro ?_ ?_ <;> split <;> omega)) | omega) (fun x_9 e_x_9 => ?_)
  have b_x_9 : 0 ≤ x_9 ∧ x_9 ≤ 2047 := by rw [e_x_9]; exact ii_kJ_ringBegin hσ _
  try simp (disch := omega) only [w32_of, w64_of, w8_of] at e_x_9
  have c7 := ii_kJ_ringBegin hσ ring_0
  refine wp_bd (P := fun rr_ => (0 ≤ rr_.2 ∧ rr_.2 ≤ 2048)) ?_ ?_
  · refine wp_whl (fun ss_ => (0 ≤ ss_.2 ∧ ss_.2 ≤ 2048)) (fun ss_ => (2049 - ss_.2).toNat) (by (try dsimp only) <;> first | assumption | omega | ((try simp (disch := omega) only [w32_of, w64_of, w8_of]) <;> first | assumption | omega | (split <;> omega) | (refine And.intro ?_ ?_ <;> split <;> omega)) | omega) ?_
    rintro ⟨odd_11, k_12⟩ y9
    try dsimp only at y9 ⊢
    have g8 := y9
    refine wp_rdI (by (try dsimp only) <;> first | assumption | omega | ((try simp (disch := omega) only [w32_of, w64_of, w8_of]) <;> first | assumption | omega | (split <;> omega) | (refine And.intro ?_ ?_ <;> split <;> omega)) | omega) (by (try dsimp only) <;> first | assumption | omega | ((try simp (disch := omega) only [w32_of, w64_of, w8_of]) <;> first | assumption | omega | (split <;> omega) | (refine And.intro ?_ ?_ <;> split <;> omega)) | omega) (fun x_20 e_x_20 => ?_)
    have b_x_20 : 0 ≤ x_20 ∧ x_20 ≤ 2048 := by rw [e_x_20]; exact ii_kJ_ringEnd hσ _
    try simp (disch := omega) only [w32_of, w64_of, w8_of] at e_x_20
    have c10 := ii_kJ_ringEnd hσ ring_0
    have c12 := w32_rng k_12
    have c13 := w32_rng x_20
    refine wp_if (fun c11 => ?_) (fun c11 => ?_)
    · try simp (disch := omega) only [w32_of, w64_of, w8_of, decide_eq_true_eq, decide_eq_false_iff_not, Bool.not_eq_true] at c11
      refine wp_bd (P := fun rr_ => True) ?_ ?_
      · refine wp_rdI (by (try dsimp only) <;> first | assumption | omega | ((try simp (disch := omega) only [w32_of, w64_of, w8_of]) <;> first | assumption | omega | (split <;> omega) | (refine And.intro ?_ ?_ <;> split <;> omega)) | omega) (by (try dsimp only) <;> first | assumption | omega | ((try simp (disch := omega) only [w32_of, w64_of, w8_of]) <;> first | assumption | omega | (split <;> omega) | (refine And.intro ?_ ?_ <;> split <;> omega)) | omega) (fun x_23 e_x_23 => ?_)
        have b_x_23 : (-1000000000) ≤ x_23 ∧ x_23 ≤ 1000000000 := by rw [e_x_23]; exact iiE_ay (s := 179) hσ (by decide) _
        try simp (disch := omega) only [w32_of, w64_of, w8_of] at e_x_23
        have c14 : (-1000000000) ≤ σ 46336 k_12 ∧ σ 46336 k_12 ≤ 1000000000 := iiE_ay (s := 179) hσ (by decide) k_12
        have c16 := w32_rng x_3
        have c17 := w32_rng x_23
        refine wp_if (fun c15 => ?_) (fun c15 => ?_)
        · try simp (disch := omega) only [w32_of, w64_of, w8_of, decide_eq_true_eq, decide_eq_false_iff_not, Bool.not_eq_true] at c15
          exact wp_some trivial
        · try simp (disch := omega) only [w32_of, w64_of, w8_of, decide_eq_true_eq, decide_eq_false_iff_not, Bool.not_eq_true] at c15
          refine wp_rdI (by (try dsimp only) <;> first | assumption | omega | ((try simp (disch := omega) only [w32_of, w64_of, w8_of]) <;> first | assumption | omega | (split <;> omega) | (refine And.intro ?_ ?_ <;> split <;> omega)) | omega) (by (try dsimp only) <;> first | assumption | omega | ((try simp (disch := omega) only [w32_of, w64_of, w8_of]) <;> first | assumption | omega | (split <;> omega) | (refine And.intro ?_ ?_ <;> split <;> omega)) | omega) (fun x_27 e_x_27 => ?_)
          have b_x_27 : (-1000000000) ≤ x_27 ∧ x_27 ≤ 1000000000 := by rw [e_x_27]; exact iiE_ay (s := 179) hσ (by decide) _
          try simp (disch := omega) only [w32_of, w64_of, w8_of] at e_x_27
          have c19 := w32_rng x_27
          refine wp_if (fun c18 => ?_) (fun c18 => ?_)
          · try simp (disch := omega) only [w32_of, w64_of, w8_of, decide_eq_true_eq, decide_eq_false_iff_not, Bool.not_eq_true] at c18
            have c21 := w32_rng x_7
            have c22 := w64_rng ((w32 x_7) - (w32 x_3))
            refine wp_if (fun c20 => ?_) (fun c20 => ?_)
            · try simp (disch := omega) only [w32_of, w64_of, w8_of, decide_eq_true_eq, decide_eq_false_iff_not, Bool.not_eq_true] at c20
              exact wp_some trivial
            · try simp (disch := omega) only [w32_of, w64_of, w8_of, decide_eq_true_eq, decide_eq_false_iff_not, Bool.not_eq_true] at c20
              exact wp_some trivial
          · try simp (disch := omega) only [w32_of, w64_of, w8_of, decide_eq_true_eq, decide_eq_false_iff_not, Bool.not_eq_true] at c18
            exact wp_some trivial
      rintro x_34 _ -
      refine wp_bd (P := fun rr_ => True) ?_ ?_
      · refine wp_rdI (by (try dsimp only) <;> first | assumption | omega | ((try simp (disch := omega) only [w32_of, w64_of, w8_of]) <;> first | assumption | omega | (split <;> omega) | (refine And.intro ?_ ?_ <;> split <;> omega)) | omega) (by (try dsimp only) <;> first | assumption | omega | ((try simp (disch := omega) only [w32_of, w64_of, w8_of]) <;> first | assumption | omega | (split <;> omega) | (refine And.intro ?_ ?_ <;> split <;> omega)) | omega) (fun x_35 e_x_35 => ?_)
        have b_x_35 : (-1000000000) ≤ x_35 ∧ x_35 ≤ 1000000000 := by rw [e_x_35]; exact iiE_by (s := 179) hσ (by decide) _
        try simp (disch := omega) only [w32_of, w64_of, w8_of] at e_x_35
        have c23 : (-1000000000) ≤ σ 46848 k_12 ∧ σ 46848 k_12 ≤ 1000000000 := iiE_by (s := 179) hσ (by decide) k_12
        have c25 := w32_rng x_3
        have c26 := w32_rng x_35
        refine wp_if (fun c24 => ?_) (fun c24 => ?_)
        · try simp (disch := omega) only [w32_of, w64_of, w8_of, decide_eq_true_eq, decide_eq_false_iff_not, Bool.not_eq_true] at c24
          exact wp_some trivial
        · try simp (disch := omega) only [w32_of, w64_of, w8_of, decide_eq_true_eq, decide_eq_false_iff_not, Bool.not_eq_true] at c24
          refine wp_rdI (by (try dsimp only) <;> first | assumption | omega | ((try simp (disch := omega) only [w32_of, w64_of, w8_of]) <;> first | assumption | omega | (split <;> omega) | (refine And.intro ?_ ?_ <;> split <;> omega)) | omega) (by (try dsimp only) <;> first | assumption | omega | ((try simp (disch := omega) only [w32_of, w64_of, w8_of]) <;> first | assumption | omega | (split <;> omega) | (refine And.intro ?_ ?_ <;> split <;> omega)) | omega) (fun x_39 e_x_39 => ?_)
          have b_x_39 : (-1000000000) ≤ x_39 ∧ x_39 ≤ 1000000000 := by rw [e_x_39]; exact iiE_by (s := 179) hσ (by decide) _
          try simp (disch := omega) only [w32_of, w64_of, w8_of] at e_x_39
          have c28 := w32_rng x_39
          refine wp_if (fun c27 => ?_) (fun c27 => ?_)
          · try simp (disch := omega) only [w32_of, w64_of, w8_of, decide_eq_true_eq, decide_eq_false_iff_not, Bool.not_eq_true] at c27
            have c30 := w32_rng x_7
            have c31 := w64_rng ((w32 x_7) - (w32 x_3))
            refine wp_if (fun c29 => ?_) (fun c29 => ?_)
            · try simp (disch := omega) only [w32_of, w64_of, w8_of, decide_eq_true_eq, decide_eq_false_iff_not, Bool.not_eq_true] at c29
              exact wp_some trivial
            · try simp (disch := omega) only [w32_of, w64_of, w8_of, decide_eq_true_eq, decide_eq_false_iff_not, Bool.not_eq_true] at c29
              exact wp_some trivial
          · try simp (disch := omega) only [w32_of, w64_of, w8_of, decide_eq_true_eq, decide_eq_false_iff_not, Bool.not_eq_true] at c27
            exact wp_some trivial
      rintro x_46 _ -
      refine wp_if (fun c32 => ?_) (fun c32 => ?_)
      · try simp (disch := omega) only [w32_of, w64_of, w8_of, decide_eq_true_eq, decide_eq_false_iff_not, Bool.not_eq_true] at c32
        exact wp_some (x_inl ⟨(by (try dsimp only) <;> first | assumption | omega | ((try simp (disch := omega) only [w32_of, w64_of, w8_of]) <;> first | assumption | omega | (split <;> omega) | (refine And.intro ?_ ?_ <;> split <;> omega)) | omega), (by (try dsimp only) <;> first | assumption | omega | ((try simp (disch := omega) only [w32_of, w64_of, w8_of]) <;> first | assumption | omega | (split <;> omega) | (refine And.intro ?_ ?_ <;> split <;> omega)) | omega)⟩)
      · try simp (disch := omega) only [w32_of, w64_of, w8_of, decide_eq_true_eq, decide_eq_false_iff_not, Bool.not_eq_true] at c32
        have c33 : ((gsz 179 : Nat) : Int) = 2048 := by decide
        refine wp_bd (s_E_turn (σ := σ) (this_0 := 179) (i_0 := k_12) (x_0 := x_1) (y_0 := x_3) hσ (by decide) (by (try dsimp only) <;> first | assumption | omega | ((try simp (disch := omega) only [w32_of, w64_of, w8_of]) <;> first | assumption | omega | (split <;> omega) | (refine And.intro ?_ ?_ <;> split <;> omega)) | omega) (by (try dsimp only) <;> first | assumption | omega | ((try simp (disch := omega) only [w32_of, w64_of, w8_of]) <;> first | assumption | omega | (split <;> omega) | (refine And.intro ?_ ?_ <;> split <;> omega)) | omega) (by (try dsimp only) <;> first | assumption | omega | ((try simp (disch := omega) only [w32_of, w64_of, w8_of]) <;> first | assumption | omega | (split <;> omega) | (refine And.intro ?_ ?_ <;> split <;> omega)) | omega)) ?_
        rintro x_50 - ⟨g34, g35⟩
        try simp (disch := omega) only [w32_of, w64_of, w8_of] at g34
        try simp (disch := omega) only [w32_of, w64_of, w8_of] at g35
        refine wp_bd (P := fun rr_ => ((-1) ≤ rr_ ∧ rr_ ≤ 1)) ?_ ?_
        · have c37 := w32_rng x_50
          refine wp_if (fun c36 => ?_) (fun c36 => ?_)
          · try simp (disch := omega) only [w32_of, w64_of, w8_of, decide_eq_true_eq, decide_eq_false_iff_not, Bool.not_eq_true] at c36
            refine wp_rdI (by (try dsimp only) <;> first | assumption | omega | ((try simp (disch := omega) only [w32_of, w64_of, w8_of]) <;> first | assumption | omega | (split <;> omega) | (refine And.intro ?_ ?_ <;> split <;> omega)) | omega) (by (try dsimp only) <;> first | assumption | omega | ((try simp (disch := omega) only [w32_of, w64_of, w8_of]) <;> first | assumption | omega | (split <;> omega) | (refine And.intro ?_ ?_ <;> split <;> omega)) | omega) (fun x_56 e_x_56 => ?_)
            have b_x_56 : (-1000000000) ≤ x_56 ∧ x_56 ≤ 1000000000 := by rw [e_x_56]; exact iiE_bx (s := 179) hσ (by decide) _
            try simp (disch := omega) only [w32_of, w64_of, w8_of] at e_x_56
            have c38 : (-1000000000) ≤ σ 46592 k_12 ∧ σ 46592 k_12 ≤ 1000000000 := iiE_bx (s := 179) hσ (by decide) k_12
            refine wp_rdI (by (try dsimp only) <;> first | assumption | omega | ((try simp (disch := omega) only [w32_of, w64_of, w8_of]) <;> first | assumption | omega | (split <;> omega) | (refine And.intro ?_ ?_ <;> split <;> omega)) | omega) (by (try dsimp only) <;> first | assumption | omega | ((try simp (disch := omega) only [w32_of, w64_of, w8_of]) <;> first | assumption | omega | (split <;> omega) | (refine And.intro ?_ ?_ <;> split <;> omega)) | omega) (fun x_58 e_x_58 => ?_)
            have b_x_58 : (-1000000000) ≤ x_58 ∧ x_58 ≤ 1000000000 := by rw [e_x_58]; exact iiE_ax (s := 179) hσ (by decide) _
            try simp (disch := omega) only [w32_of, w64_of, w8_of] at e_x_58
            have c39 : (-1000000000) ≤ σ 46080 k_12 ∧ σ 46080 k_12 ≤ 1000000000 := iiE_ax (s := 179) hσ (by decide) k_12
            refine wp_rdI (by (try dsimp only) <;> first | assumption | omega | ((try simp (disch := omega) only [w32_of, w64_of, w8_of]) <;> first | assumption | omega | (split <;> omega) | (refine And.intro ?_ ?_ <;> split <;> omega)) | omega) (by (try dsimp only) <;> first | assumption | omega | ((try simp (disch := omega) only [w32_of, w64_of, w8_of]) <;> first | assumption | omega | (split <;> omega) | (refine And.intro ?_ ?_ <;> split <;> omega)) | omega) (fun x_60 e_x_60 => ?_)
            have b_x_60 : (-1000000000) ≤ x_60 ∧ x_60 ≤ 1000000000 := by rw [e_x_60]; exact iiE_by (s := 179) hσ (by decide) _
            try simp (disch := omega) only [w32_of, w64_of, w8_of] at e_x_60
            have c40 : (-1000000000) ≤ σ 46848 k_12 ∧ σ 46848 k_12 ≤ 1000000000 := iiE_by (s := 179) hσ (by decide) k_12
            refine wp_rdI (by (try dsimp only) <;> first | assumption | omega | ((try simp (disch := omega) only [w32_of, w64_of, w8_of]) <;> first | assumption | omega | (split <;> omega) | (refine And.intro ?_ ?_ <;> split <;> omega)) | omega) (by (try dsimp only) <;> first | assumption | omega | ((try simp (disch := omega) only [w32_of, w64_of, w8_of]) <;> first | assumption | omega | (split <;> omega) | (refine And.intro ?_ ?_ <;> split <;> omega)) | omega) (fun x_62 e_x_62 => ?_)
            have b_x_62 : (-1000000000) ≤ x_62 ∧ x_62 ≤ 1000000000 := by rw [e_x_62]; exact iiE_ay (s := 179) hσ (by decide) _
            try simp (disch := omega) only [w32_of, w64_of, w8_of] at e_x_62
            have c41 : (-1000000000) ≤ σ 46336 k_12 ∧ σ 46336 k_12 ≤ 1000000000 := iiE_ay (s := 179) hσ (by decide) k_12
            have c42 := w32_rng x_56
            have c43 := w32_rng x_58
            have c44 := w32_rng x_60
            have c45 := w32_rng x_62
            have c46 := w32_rng x_5
            have c47 := w32_rng x_1
            have c48 := w32_rng x_7
            have c49 := w32_rng x_3
            have c50 := p_Q_turnOf (ax_0 := 0) (ay_0 := 0) (bx_0 := ((w32 x_56) - (w32 x_58))) (by_0 := ((w32 x_60) - (w32 x_62))) (cx_0 := ((w32 x_5) - (w32 x_1))) (cy_0 := ((w32 x_7) - (w32 x_3)))
            refine wp_lt (fun x_64 e_x_64 => ?_)
            try simp (disch := omega) only [w32_of, w64_of, w8_of] at e_x_64
            have htq := turnOf_b 0 0 ((w32 x_56) - (w32 x_58)) ((w32 x_60) - (w32 x_62)) ((w32 x_5) - (w32 x_1)) ((w32 x_7) - (w32 x_3))
            have htq2 : -1 ≤ x_64 ∧ x_64 ≤ 1 := by subst_vars; exact turnOf_b _ _ _ _ _ _
            exact wp_some (by (try dsimp only) <;> first | assumption | omega | ((try simp (disch := omega) only [w32_of, w64_of, w8_of]) <;> first | assumption | omega | (split <;> omega) | (refine And.intro ?_ ?_ <;> split <;> omega)) | omega)
          · try simp (disch := omega) only [w32_of, w64_of, w8_of, decide_eq_true_eq, decide_eq_false_iff_not, Bool.not_eq_true] at c36
            exact wp_some (by (try dsimp only) <;> first | assumption | omega | ((try simp (disch := omega) only [w32_of, w64_of, w8_of]) <;> first | assumption | omega | (split <;> omega) | (refine And.intro ?_ ?_ <;> split <;> omega)) | omega)
        rintro turn_67 _ g51
        refine wp_bd (P := fun rr_ => True) ?_ ?_
        · have c53 := w32_rng turn_67
          refine wp_if (fun c52 => ?_) (fun c52 => ?_)
          · try simp (disch := omega) only [w32_of, w64_of, w8_of, decide_eq_true_eq, decide_eq_false_iff_not, Bool.not_eq_true] at c52
            exact wp_some trivial
          · try simp (disch := omega) only [w32_of, w64_of, w8_of, decide_eq_true_eq, decide_eq_false_iff_not, Bool.not_eq_true] at c52
            exact wp_some trivial
        rintro odd_85 _ -
        exact wp_some (x_inl ⟨(by (try dsimp only) <;> first | assumption | omega | ((try simp (disch := omega) only [w32_of, w64_of, w8_of]) <;> first | assumption | omega | (split <;> omega) | (refine And.intro ?_ ?_ <;> split <;> omega)) | omega), (by (try dsimp only) <;> first | assumption | omega | ((try simp (disch := omega) only [w32_of, w64_of, w8_of]) <;> first | assumption | omega | (split <;> omega) | (refine And.intro ?_ ?_ <;> split <;> omega)) | omega)⟩)
    · try simp (disch := omega) only [w32_of, w64_of, w8_of, decide_eq_true_eq, decide_eq_false_iff_not, Bool.not_eq_true] at c11
      exact wp_some (x_inr (by (try dsimp only) <;> first | assumption | omega | ((try simp (disch := omega) only [w32_of, w64_of, w8_of]) <;> first | assumption | omega | (split <;> omega) | (refine And.intro ?_ ?_ <;> split <;> omega)) | omega))
  rintro ⟨odd_98, k_99⟩ _ y55
  try dsimp only at y55 ⊢
  have g54 := y55
  exact wp_some trivial
theorem s_J_whereIs {σ : SG} {ring_0 : Int} {x_0 : Int} {y_0 : Int} (hσ : II σ) (w0 : 0 ≤ ring_0 ∧ ring_0 ≤ 2047) : wp_ (fJ_whereIs σ ring_0 x_0 y_0) (fun zz_ => (0 ≤ zz_ ∧ zz_ ≤ 2)) := by
  unfold fJ_whereIs
  have c1 := w32_rng ring_0
  refine wp_rdI (by (try dsimp only) <;> first | assumption | omega | ((try simp (disch := omega) only [w32_of, w64_of, w8_of]) <;> first | assumption | omega | (split <;> omega) | (refine And.intro ?_ ?_ <;> split <;> omega)) | omega) (by (try dsimp only) <;> first | assumption | omega | ((try simp (disch := omega) only [w32_of, w64_of, w8_of]) <;> first | assumption | omega | (split <;> omega) | (refine And.intro ?_ ?_ <;> split <;> omega)) | omega) (fun x_1 e_x_1 => ?_)
  have b_x_1 : 0 ≤ x_1 ∧ x_1 ≤ 2047 := by rw [e_x_1]; exact ii_kJ_ringBegin hσ _
  try simp (disch := omega) only [w32_of, w64_of, w8_of] at e_x_1
  have c2 := ii_kJ_ringBegin hσ ring_0
  refine wp_bx (P := fun rr_ => (0 ≤ rr_.2 ∧ rr_.2 ≤ 2048)) ?_ ?_
  · refine wp_whl (fun ss_ => (0 ≤ ss_.2 ∧ ss_.2 ≤ 2048)) (fun ss_ => (2049 - ss_.2).toNat) (by (try dsimp only) <;> first | assumption | omega | ((try simp (disch := omega) only [w32_of, w64_of, w8_of]) <;> first | assumption | omega | (split <;> omega) | (refine And.intro ?_ ?_ <;> split <;> omega)) | omega) ?_
    rintro ⟨odd_3, k_4⟩ y4
    try dsimp only at y4 ⊢
    have g3 := y4
    refine wp_rdI (by (try dsimp only) <;> first | assumption | omega | ((try simp (disch := omega) only [w32_of, w64_of, w8_of]) <;> first | assumption | omega | (split <;> omega) | (refine And.intro ?_ ?_ <;> split <;> omega)) | omega) (by (try dsimp only) <;> first | assumption | omega | ((try simp (disch := omega) only [w32_of, w64_of, w8_of]) <;> first | assumption | omega | (split <;> omega) | (refine And.intro ?_ ?_ <;> split <;> omega)) | omega) (fun x_12 e_x_12 => ?_)
    have b_x_12 : 0 ≤ x_12 ∧ x_12 ≤ 2048 := by rw [e_x_12]; exact ii_kJ_ringEnd hσ _
    try simp (disch := omega) only [w32_of, w64_of, w8_of] at e_x_12
    have c5 := ii_kJ_ringEnd hσ ring_0
    have c7 := w32_rng k_4
    have c8 := w32_rng x_12
    refine wp_if (fun c6 => ?_) (fun c6 => ?_)
    · try simp (disch := omega) only [w32_of, w64_of, w8_of, decide_eq_true_eq, decide_eq_false_iff_not, Bool.not_eq_true] at c6
      refine wp_rdI (by (try dsimp only) <;> first | assumption | omega | ((try simp (disch := omega) only [w32_of, w64_of, w8_of]) <;> first | assumption | omega | (split <;> omega) | (refine And.intro ?_ ?_ <;> split <;> omega)) | omega) (by (try dsimp only) <;> first | assumption | omega | ((try simp (disch := omega) only [w32_of, w64_of, w8_of]) <;> first | assumption | omega | (split <;> omega) | (refine And.intro ?_ ?_ <;> split <;> omega)) | omega) (fun x_15 e_x_15 => ?_)
      have b_x_15 : (-1000000000) ≤ x_15 ∧ x_15 ≤ 1000000000 := by rw [e_x_15]; exact iiE_ax (s := 179) hσ (by decide) _
      try simp (disch := omega) only [w32_of, w64_of, w8_of] at e_x_15
      have c9 : (-1000000000) ≤ σ 46080 k_4 ∧ σ 46080 k_4 ≤ 1000000000 := iiE_ax (s := 179) hσ (by decide) k_4
      refine wp_rdI (by (try dsimp only) <;> first | assumption | omega | ((try simp (disch := omega) only [w32_of, w64_of, w8_of]) <;> first | assumption | omega | (split <;> omega) | (refine And.intro ?_ ?_ <;> split <;> omega)) | omega) (by (try dsimp only) <;> first | assumption | omega | ((try simp (disch := omega) only [w32_of, w64_of, w8_of]) <;> first | assumption | omega | (split <;> omega) | (refine And.intro ?_ ?_ <;> split <;> omega)) | omega) (fun x_17 e_x_17 => ?_)
      have b_x_17 : (-1000000000) ≤ x_17 ∧ x_17 ≤ 1000000000 := by rw [e_x_17]; exact iiE_ay (s := 179) hσ (by decide) _
      try simp (disch := omega) only [w32_of, w64_of, w8_of] at e_x_17
      have c10 : (-1000000000) ≤ σ 46336 k_4 ∧ σ 46336 k_4 ≤ 1000000000 := iiE_ay (s := 179) hσ (by decide) k_4
      refine wp_rdI (by (try dsimp only) <;> first | assumption | omega | ((try simp (disch := omega) only [w32_of, w64_of, w8_of]) <;> first | assumption | omega | (split <;> omega) | (refine And.intro ?_ ?_ <;> split <;> omega)) | omega) (by (try dsimp only) <;> first | assumption | omega | ((try simp (disch := omega) only [w32_of, w64_of, w8_of]) <;> first | assumption | omega | (split <;> omega) | (refine And.intro ?_ ?_ <;> split <;> omega)) | omega) (fun x_19 e_x_19 => ?_)
      have b_x_19 : (-1000000000) ≤ x_19 ∧ x_19 ≤ 1000000000 := by rw [e_x_19]; exact iiE_bx (s := 179) hσ (by decide) _
      try simp (disch := omega) only [w32_of, w64_of, w8_of] at e_x_19
      have c11 : (-1000000000) ≤ σ 46592 k_4 ∧ σ 46592 k_4 ≤ 1000000000 := iiE_bx (s := 179) hσ (by decide) k_4
      refine wp_rdI (by (try dsimp only) <;> first | assumption | omega | ((try simp (disch := omega) only [w32_of, w64_of, w8_of]) <;> first | assumption | omega | (split <;> omega) | (refine And.intro ?_ ?_ <;> split <;> omega)) | omega) (by (try dsimp only) <;> first | assumption | omega | ((try simp (disch := omega) only [w32_of, w64_of, w8_of]) <;> first | assumption | omega | (split <;> omega) | (refine And.intro ?_ ?_ <;> split <;> omega)) | omega) (fun x_21 e_x_21 => ?_)
      have b_x_21 : (-1000000000) ≤ x_21 ∧ x_21 ≤ 1000000000 := by rw [e_x_21]; exact iiE_by (s := 179) hσ (by decide) _
      try simp (disch := omega) only [w32_of, w64_of, w8_of] at e_x_21
      have c12 : (-1000000000) ≤ σ 46848 k_4 ∧ σ 46848 k_4 ≤ 1000000000 := iiE_by (s := 179) hσ (by decide) k_4
      refine wp_if (fun c13 => ?_) (fun c13 => ?_)
      · try simp (disch := omega) only [w32_of, w64_of, w8_of, decide_eq_true_eq, decide_eq_false_iff_not, Bool.not_eq_true, fQ_isOnSegment] at c13
        exact wp_some (x_inr (x_inr (by (try dsimp only) <;> first | assumption | omega | ((try simp (disch := omega) only [w32_of, w64_of, w8_of]) <;> first | assumption | omega | (split <;> omega) | (refine And.intro ?_ ?_ <;> split <;> omega)) | omega)))
      · try simp (disch := omega) only [w32_of, w64_of, w8_of, decide_eq_true_eq, decide_eq_false_iff_not, Bool.not_eq_true, fQ_isOnSegment] at c13
        refine wp_bd (P := fun rr_ => True) ?_ ?_
        · refine wp_if (fun c14 => ?_) (fun c14 => ?_)
          · try simp (disch := omega) only [w32_of, w64_of, w8_of, decide_eq_true_eq, decide_eq_false_iff_not, Bool.not_eq_true, fQ_isCrossedFrom] at c14
            exact wp_some trivial
          · try simp (disch := omega) only [w32_of, w64_of, w8_of, decide_eq_true_eq, decide_eq_false_iff_not, Bool.not_eq_true, fQ_isCrossedFrom] at c14
            exact wp_some trivial
        rintro odd_33 _ -
        exact wp_some (x_inl ⟨(by (try dsimp only) <;> first | assumption | omega | ((try simp (disch := omega) only [w32_of, w64_of, w8_of]) <;> first | assumption | omega | (split <;> omega) | (refine And.intro ?_ ?_ <;> split <;> omega)) | omega), (by (try dsimp only) <;> first | assumption | omega | ((try simp (disch := omega) only [w32_of, w64_of, w8_of]) <;> first | assumption | omega | (split <;> omega) | (refine And.intro ?_ ?_ <;> split <;> omega)) | omega)⟩)
    · try simp (disch := omega) only [w32_of, w64_of, w8_of, decide_eq_true_eq, decide_eq_false_iff_not, Bool.not_eq_true] at c6
      exact wp_some (x_inr (x_inl (by (try dsimp only) <;> first | assumption | omega | ((try simp (disch := omega) only [w32_of, w64_of, w8_of]) <;> first | assumption | omega | (split <;> omega) | (refine And.intro ?_ ?_ <;> split <;> omega)) | omega)))
  rintro ⟨odd_37, k_38⟩ y16
  try dsimp only at y16 ⊢
  have g15 := y16
  exact wp_some (by (try dsimp only) <;> first | assumption | omega | ((try simp (disch := omega) only [w32_of, w64_of, w8_of]) <;> first | assumption | omega | (split <;> omega) | (refine And.intro ?_ ?_ <;> split <;> omega)) | omega)
theorem s_J_liesIn {σ : SG} {ring_0 : Int} {other_0 : Int} (hσ : II σ) (w0 : 0 ≤ ring_0 ∧ ring_0 ≤ 2047) (w1 : 0 ≤ other_0 ∧ other_0 ≤ 2047) : wp_ (fJ_liesIn σ ring_0 other_0) (fun zz_ => True) := by
  unfold fJ_liesIn
  have c1 := w32_rng ring_0
  refine wp_rdI (by (try dsimp only) <;> first | assumption | omega | ((try simp (disch := omega) only [w32_of, w64_of, w8_of]) <;> first | assumption | omega | (split <;> omega) | (refine And.intro ?_ ?_ <;> split <;> omega)) | omega) (by (try dsimp only) <;> first | assumption | omega | ((try simp (disch := omega) only [w32_of, w64_of, w8_of]) <;> first | assumption | omega | (split <;> omega) | (refine And.intro ?_ ?_ <;> split <;> omega)) | omega) (fun x_1 e_x_1 => ?_)
  have b_x_1 : 0 ≤ x_1 ∧ x_1 ≤ 2047 := by rw [e_x_1]; exact ii_kJ_ringBegin hσ _
  try simp (disch := omega) only [w32_of, w64_of, w8_of] at e_x_1
  have c2 := ii_kJ_ringBegin hσ ring_0
  refine wp_bx (P := fun rr_ => (0 ≤ rr_ ∧ rr_ ≤ 2048)) ?_ ?_
  · refine wp_whl (fun ss_ => (0 ≤ ss_ ∧ ss_ ≤ 2048)) (fun ss_ => (2049 - ss_).toNat) (by (try dsimp only) <;> first | assumption | omega | ((try simp (disch := omega) only [w32_of, w64_of, w8_of]) <;> first | assumption | omega | (split <;> omega) | (refine And.intro ?_ ?_ <;> split <;> omega)) | omega) ?_
    rintro i_3 g3
    refine wp_rdI (by (try dsimp only) <;> first | assumption | omega | ((try simp (disch := omega) only [w32_of, w64_of, w8_of]) <;> first | assumption | omega | (split <;> omega) | (refine And.intro ?_ ?_ <;> split <;> omega)) | omega) (by (try dsimp only) <;> first | assumption | omega | ((try simp (disch := omega) only [w32_of, w64_of, w8_of]) <;> first | assumption | omega | (split <;> omega) | (refine And.intro ?_ ?_ <;> split <;> omega)) | omega) (fun x_11 e_x_11 => ?_)
    have b_x_11 : 0 ≤ x_11 ∧ x_11 ≤ 2048 := by rw [e_x_11]; exact ii_kJ_ringEnd hσ _
    try simp (disch := omega) only [w32_of, w64_of, w8_of] at e_x_11
    have c4 := ii_kJ_ringEnd hσ ring_0
    have c6 := w32_rng i_3
    have c7 := w32_rng x_11
    refine wp_if (fun c5 => ?_) (fun c5 => ?_)
    · try simp (disch := omega) only [w32_of, w64_of, w8_of, decide_eq_true_eq, decide_eq_false_iff_not, Bool.not_eq_true] at c5
      refine wp_rdI (by (try dsimp only) <;> first | assumption | omega | ((try simp (disch := omega) only [w32_of, w64_of, w8_of]) <;> first | assumption | omega | (split <;> omega) | (refine And.intro ?_ ?_ <;> split <;> omega)) | omega) (by (try dsimp only) <;> first | assumption | omega | ((try simp (disch := omega) only [w32_of, w64_of, w8_of]) <;> first | assumption | omega | (split <;> omega) | (refine And.intro ?_ ?_ <;> split <;> omega)) | omega) (fun x_14 e_x_14 => ?_)
      have b_x_14 : (-1000000000) ≤ x_14 ∧ x_14 ≤ 1000000000 := by rw [e_x_14]; exact iiE_ax (s := 179) hσ (by decide) _
      try simp (disch := omega) only [w32_of, w64_of, w8_of] at e_x_14
      have c8 : (-1000000000) ≤ σ 46080 i_3 ∧ σ 46080 i_3 ≤ 1000000000 := iiE_ax (s := 179) hσ (by decide) i_3
      refine wp_rdI (by (try dsimp only) <;> first | assumption | omega | ((try simp (disch := omega) only [w32_of, w64_of, w8_of]) <;> first | assumption | omega | (split <;> omega) | (refine And.intro ?_ ?_ <;> split <;> omega)) | omega) (by (try dsimp only) <;> first | assumption | omega | ((try simp (disch := omega) only [w32_of, w64_of, w8_of]) <;> first | assumption | omega | (split <;> omega) | (refine And.intro ?_ ?_ <;> split <;> omega)) | omega) (fun x_16 e_x_16 => ?_)
      have b_x_16 : (-1000000000) ≤ x_16 ∧ x_16 ≤ 1000000000 := by rw [e_x_16]; exact iiE_ay (s := 179) hσ (by decide) _
      try simp (disch := omega) only [w32_of, w64_of, w8_of] at e_x_16
      have c9 : (-1000000000) ≤ σ 46336 i_3 ∧ σ 46336 i_3 ≤ 1000000000 := iiE_ay (s := 179) hσ (by decide) i_3
      refine wp_bd (s_J_whereIs (σ := σ) (ring_0 := other_0) (x_0 := x_14) (y_0 := x_16) hσ (by (try dsimp only) <;> first | assumption | omega | ((try simp (disch := omega) only [w32_of, w64_of, w8_of]) <;> first | assumption | omega | (split <;> omega) | (refine And.intro ?_ ?_ <;> split <;> omega)) | omega)) ?_
      rintro x_19 - g10
      try simp (disch := omega) only [w32_of, w64_of, w8_of] at g10
      have c12 := w32_rng x_19
      refine wp_if (fun c11 => ?_) (fun c11 => ?_)
      · try simp (disch := omega) only [w32_of, w64_of, w8_of, decide_eq_true_eq, decide_eq_false_iff_not, Bool.not_eq_true] at c11
        exact wp_some (x_inr (x_inr trivial))
      · try simp (disch := omega) only [w32_of, w64_of, w8_of, decide_eq_true_eq, decide_eq_false_iff_not, Bool.not_eq_true] at c11
        exact wp_some (x_inl ⟨(by (try dsimp only) <;> first | assumption | omega | ((try simp (disch := omega) only [w32_of, w64_of, w8_of]) <;> first | assumption | omega | (split <;> omega) | (refine And.intro ?_ ?_ <;> split <;> omega)) | omega), (by (try dsimp only) <;> first | assumption | omega | ((try simp (disch := omega) only [w32_of, w64_of, w8_of]) <;> first | assumption | omega | (split <;> omega) | (refine And.intro ?_ ?_ <;> split <;> omega)) | omega)⟩)
    · try simp (disch := omega) only [w32_of, w64_of, w8_of, decide_eq_true_eq, decide_eq_false_iff_not, Bool.not_eq_true] at c5
      exact wp_some (x_inr (x_inl (by (try dsimp only) <;> first | assumption | omega | ((try simp (disch := omega) only [w32_of, w64_of, w8_of]) <;> first | assumption | omega | (split <;> omega) | (refine And.intro ?_ ?_ <;> split <;> omega)) | omega)))
  rintro i_25 g13
  refine wp_bd (P := fun rr_ => True) ?_ ?_
  · refine wp_rdI (by (try dsimp only) <;> first | assumption | omega | ((try simp (disch := omega) only [w32_of, w64_of, w8_of]) <;> first | assumption | omega | (split <;> omega) | (refine And.intro ?_ ?_ <;> split <;> omega)) | omega) (by (try dsimp only) <;> first | assumption | omega | ((try simp (disch := omega) only [w32_of, w64_of, w8_of]) <;> first | assumption | omega | (split <;> omega) | (refine And.intro ?_ ?_ <;> split <;> omega)) | omega) (fun x_26 e_x_26 => ?_)
    have b_x_26 : 0 ≤ x_26 ∧ x_26 ≤ 2047 := by rw [e_x_26]; exact ii_kJ_ringBegin hσ _
    try simp (disch := omega) only [w32_of, w64_of, w8_of] at e_x_26
    refine wp_rdI (by (try dsimp only) <;> first | assumption | omega | ((try simp (disch := omega) only [w32_of, w64_of, w8_of]) <;> first | assumption | omega | (split <;> omega) | (refine And.intro ?_ ?_ <;> split <;> omega)) | omega) (by (try dsimp only) <;> first | assumption | omega | ((try simp (disch := omega) only [w32_of, w64_of, w8_of]) <;> first | assumption | omega | (split <;> omega) | (refine And.intro ?_ ?_ <;> split <;> omega)) | omega) (fun x_28 e_x_28 => ?_)
    have b_x_28 : 0 ≤ x_28 ∧ x_28 ≤ 2048 := by rw [e_x_28]; exact ii_kJ_ringEnd hσ _
    try simp (disch := omega) only [w32_of, w64_of, w8_of] at e_x_28
    have c14 := ii_kJ_ringEnd hσ ring_0
    have c16 := w32_rng x_26
    have c17 := w32_rng x_28
    refine wp_if (fun c15 => ?_) (fun c15 => ?_)
    · try simp (disch := omega) only [w32_of, w64_of, w8_of, decide_eq_true_eq, decide_eq_false_iff_not, Bool.not_eq_true] at c15
      refine wp_rdI (by (try dsimp only) <;> first | assumption | omega | ((try simp (disch := omega) only [w32_of, w64_of, w8_of]) <;> first | assumption | omega | (split <;> omega) | (refine And.intro ?_ ?_ <;> split <;> omega)) | omega) (by (try dsimp only) <;> first | assumption | omega | ((try simp (disch := omega) only [w32_of, w64_of, w8_of]) <;> first | assumption | omega | (split <;> omega) | (refine And.intro ?_ ?_ <;> split <;> omega)) | omega) (fun x_31 e_x_31 => ?_)
      have b_x_31 : 0 ≤ x_31 ∧ x_31 ≤ 2047 := by rw [e_x_31]; exact ii_kJ_ringBegin hσ _
      try simp (disch := omega) only [w32_of, w64_of, w8_of] at e_x_31
      refine wp_bd (s_J_isInsideBehindBegin (σ := σ) (ring_0 := other_0) (i_0 := x_31) hσ (by (try dsimp only) <;> first | assumption | omega | ((try simp (disch := omega) only [w32_of, w64_of, w8_of]) <;> first | assumption | omega | (split <;> omega) | (refine And.intro ?_ ?_ <;> split <;> omega)) | omega) (by (try dsimp only) <;> first | assumption | omega | ((try simp (disch := omega) only [w32_of, w64_of, w8_of]) <;> first | assumption | omega | (split <;> omega) | (refine And.intro ?_ ?_ <;> split <;> omega)) | omega)) ?_
      rintro x_34 - -
      refine wp_if (fun c19 => ?_) (fun c19 => ?_)
      · try simp (disch := omega) only [w32_of, w64_of, w8_of, decide_eq_true_eq, decide_eq_false_iff_not, Bool.not_eq_true] at c19
        exact wp_some trivial
      · try simp (disch := omega) only [w32_of, w64_of, w8_of, decide_eq_true_eq, decide_eq_false_iff_not, Bool.not_eq_true] at c19
        exact wp_some trivial
    · try simp (disch := omega) only [w32_of, w64_of, w8_of, decide_eq_true_eq, decide_eq_false_iff_not, Bool.not_eq_true] at c15
      exact wp_some trivial
  rintro x_39 _ -
  exact wp_some trivial
theorem s_J_liesInPart {σ : SG} {part_0 : Int} {other_0 : Int} (hσ : II σ) (w0 : 0 ≤ part_0 ∧ part_0 ≤ 2047) (w1 : 0 ≤ other_0 ∧ other_0 ≤ 2047) : wp_ (fJ_liesInPart σ part_0 other_0) (fun zz_ => True) := by
  unfold fJ_liesInPart
  refine wp_bd (s_J_isEmpty (σ := σ) (part_0 := part_0) hσ (by (try dsimp only) <;> first | assumption | omega | ((try simp (disch := omega) only [w32_of, w64_of, w8_of]) <;> first | assumption | omega | (split <;> omega) | (refine And.intro ?_ ?_ <;> split <;> omega)) | omega)) ?_
  rintro x_11 - g1
  have c2 := ii_kJ_partBegin hσ part_0
  have c3 := ii_kJ_partEnd hσ part_0
  try simp (disch := omega) only [w32_of, w64_of, w8_of] at g1
  refine wp_if (fun c4 => ?_) (fun c4 => ?_)
  · try simp (disch := omega) only [w32_of, w64_of, w8_of, decide_eq_true_eq, decide_eq_false_iff_not, Bool.not_eq_true] at c4
    exact wp_some trivial
  · have k6 := g1 (Bool.eq_false_iff.mpr c4)
    try simp (disch := omega) only [w32_of, w64_of, w8_of] at k6
    try simp (disch := omega) only [w32_of, w64_of, w8_of, decide_eq_true_eq, decide_eq_false_iff_not, Bool.not_eq_true] at c4
    refine wp_bd (s_J_isEmpty (σ := σ) (part_0 := other_0) hσ (by (try dsimp only) <;> first | assumption | omega | ((try simp (disch := omega) only [w32_of, w64_of, w8_of]) <;> first | assumption | omega | (split <;> omega) | (refine And.intro ?_ ?_ <;> split <;> omega)) | omega)) ?_
    rintro x_14 - g7
    have c8 := ii_kJ_partBegin hσ other_0
    have c9 := ii_kJ_partEnd hσ other_0
    try simp (disch := omega) only [w32_of, w64_of, w8_of] at g7
    refine wp_if (fun c10 => ?_) (fun c10 => ?_)
    · try simp (disch := omega) only [w32_of, w64_of, w8_of, decide_eq_true_eq, decide_eq_false_iff_not, Bool.not_eq_true] at c10
      exact wp_some trivial
    · have k12 := g7 (Bool.eq_false_iff.mpr c10)
      try simp (disch := omega) only [w32_of, w64_of, w8_of] at k12
      try simp (disch := omega) only [w32_of, w64_of, w8_of, decide_eq_true_eq, decide_eq_false_iff_not, Bool.not_eq_true] at c10
      have c13 := w32_rng part_0
      refine wp_rdI (by (try dsimp only) <;> first | assumption | omega | ((try simp (disch := omega) only [w32_of, w64_of, w8_of]) <;> first | assumption | omega | (split <;> omega) | (refine And.intro ?_ ?_ <;> split <;> omega)) | omega) (by (try dsimp only) <;> first | assumption | omega | ((try simp (disch := omega) only [w32_of, w64_of, w8_of]) <;> first | assumption | omega | (split <;> omega) | (refine And.intro ?_ ?_ <;> split <;> omega)) | omega) (fun x_16 e_x_16 => ?_)
      have b_x_16 : 0 ≤ x_16 ∧ x_16 ≤ 2048 := by rw [e_x_16]; exact ii_kJ_partBegin hσ _
      try simp (disch := omega) only [w32_of, w64_of, w8_of] at e_x_16
      have c14 := w32_rng other_0
      refine wp_rdI (by (try dsimp only) <;> first | assumption | omega | ((try simp (disch := omega) only [w32_of, w64_of, w8_of]) <;> first | assumption | omega | (split <;> omega) | (refine And.intro ?_ ?_ <;> split <;> omega)) | omega) (by (try dsimp only) <;> first | assumption | omega | ((try simp (disch := omega) only [w32_of, w64_of, w8_of]) <;> first | assumption | omega | (split <;> omega) | (refine And.intro ?_ ?_ <;> split <;> omega)) | omega) (fun x_18 e_x_18 => ?_)
      have b_x_18 : 0 ≤ x_18 ∧ x_18 ≤ 2048 := by rw [e_x_18]; exact ii_kJ_partBegin hσ _
      try simp (disch := omega) only [w32_of, w64_of, w8_of] at e_x_18
      refine wp_bd (s_J_liesIn (σ := σ) (ring_0 := x_16) (other_0 := x_18) hσ (by (try dsimp only) <;> first | assumption | omega | ((try simp (disch := omega) only [w32_of, w64_of, w8_of]) <;> first | assumption | omega | (split <;> omega) | (refine And.intro ?_ ?_ <;> split <;> omega)) | omega) (by (try dsimp only) <;> first | assumption | omega | ((try simp (disch := omega) only [w32_of, w64_of, w8_of]) <;> first | assumption | omega | (split <;> omega) | (refine And.intro ?_ ?_ <;> split <;> omega)) | omega)) ?_
      rintro x_21 - -
      refine wp_if (fun c16 => ?_) (fun c16 => ?_)
      · try simp (disch := omega) only [w32_of, w64_of, w8_of, decide_eq_true_eq, decide_eq_false_iff_not, Bool.not_eq_true] at c16
        refine wp_rdI (by (try dsimp only) <;> first | assumption | omega | ((try simp (disch := omega) only [w32_of, w64_of, w8_of]) <;> first | assumption | omega | (split <;> omega) | (refine And.intro ?_ ?_ <;> split <;> omega)) | omega) (by (try dsimp only) <;> first | assumption | omega | ((try simp (disch := omega) only [w32_of, w64_of, w8_of]) <;> first | assumption | omega | (split <;> omega) | (refine And.intro ?_ ?_ <;> split <;> omega)) | omega) (fun x_23 e_x_23 => ?_)
        have b_x_23 : 0 ≤ x_23 ∧ x_23 ≤ 2048 := by rw [e_x_23]; exact ii_kJ_partBegin hσ _
        try simp (disch := omega) only [w32_of, w64_of, w8_of] at e_x_23
        refine wp_bx (P := fun rr_ => (1 ≤ rr_ ∧ rr_ ≤ 2049)) ?_ ?_
        · refine wp_whl (fun ss_ => (1 ≤ ss_ ∧ ss_ ≤ 2049)) (fun ss_ => (2050 - ss_).toNat) (by (try dsimp only) <;> first | assumption | omega | ((try simp (disch := omega) only [w32_of, w64_of, w8_of]) <;> first | assumption | omega | (split <;> omega) | (refine And.intro ?_ ?_ <;> split <;> omega)) | omega) ?_
          rintro hole_25 g17
          refine wp_rdI (by (try dsimp only) <;> first | assumption | omega | ((try simp (disch := omega) only [w32_of, w64_of, w8_of]) <;> first | assumption | omega | (split <;> omega) | (refine And.intro ?_ ?_ <;> split <;> omega)) | omega) (by (try dsimp only) <;> first | assumption | omega | ((try simp (disch := omega) only [w32_of, w64_of, w8_of]) <;> first | assumption | omega | (split <;> omega) | (refine And.intro ?_ ?_ <;> split <;> omega)) | omega) (fun x_33 e_x_33 => ?_)
          have b_x_33 : 0 ≤ x_33 ∧ x_33 ≤ 2048 := by rw [e_x_33]; exact ii_kJ_partEnd hσ _
          try simp (disch := omega) only [w32_of, w64_of, w8_of] at e_x_33
          have c19 := w32_rng hole_25
          have c20 := w32_rng x_33
          refine wp_if (fun c18 => ?_) (fun c18 => ?_)
          · try simp (disch := omega) only [w32_of, w64_of, w8_of, decide_eq_true_eq, decide_eq_false_iff_not, Bool.not_eq_true] at c18
            refine wp_bd (s_J_liesIn (σ := σ) (ring_0 := x_16) (other_0 := hole_25) hσ (by (try dsimp only) <;> first | assumption | omega | ((try simp (disch := omega) only [w32_of, w64_of, w8_of]) <;> first | assumption | omega | (split <;> omega) | (refine And.intro ?_ ?_ <;> split <;> omega)) | omega) (by (try dsimp only) <;> first | assumption | omega | ((try simp (disch := omega) only [w32_of, w64_of, w8_of]) <;> first | assumption | omega | (split <;> omega) | (refine And.intro ?_ ?_ <;> split <;> omega)) | omega)) ?_
            rintro x_37 - -
            refine wp_if (fun c22 => ?_) (fun c22 => ?_)
            · try simp (disch := omega) only [w32_of, w64_of, w8_of, decide_eq_true_eq, decide_eq_false_iff_not, Bool.not_eq_true] at c22
              exact wp_some (x_inr (x_inr trivial))
            · try simp (disch := omega) only [w32_of, w64_of, w8_of, decide_eq_true_eq, decide_eq_false_iff_not, Bool.not_eq_true] at c22
              exact wp_some (x_inl ⟨(by (try dsimp only) <;> first | assumption | omega | ((try simp (disch := omega) only [w32_of, w64_of, w8_of]) <;> first | assumption | omega | (split <;> omega) | (refine And.intro ?_ ?_ <;> split <;> omega)) | omega), (by (try dsimp only) <;> first | assumption | omega | ((try simp (disch := omega) only [w32_of, w64_of, w8_of]) <;> first | assumption | omega | (split <;> omega) | (refine And.intro ?_ ?_ <;> split <;> omega)) | omega)⟩)
          · try simp (disch := omega) only [w32_of, w64_of, w8_of, decide_eq_true_eq, decide_eq_false_iff_not, Bool.not_eq_true] at c18
            exact wp_some (x_inr (x_inl (by (try dsimp only) <;> first | assumption | omega | ((try simp (disch := omega) only [w32_of, w64_of, w8_of]) <;> first | assumption | omega | (split <;> omega) | (refine And.intro ?_ ?_ <;> split <;> omega)) | omega)))
        rintro hole_41 g23
        exact wp_some trivial
      · try simp (disch := omega) only [w32_of, w64_of, w8_of, decide_eq_true_eq, decide_eq_false_iff_not, Bool.not_eq_true] at c16
        exact wp_some trivial
theorem s_J_tell {σ : SG} {fault_0 : Int} {part_0 : Int} {ring_0 : Int} (hσ : II σ) (w0 : -1 ≤ part_0 ∧ part_0 ≤ 4096) (w1 : -1 ≤ ring_0 ∧ ring_0 ≤ 4096) : wp_ (fJ_tell σ fault_0 part_0 ring_0) (fun zz_ => II zz_.2 ∧ FC [kJ_place] [] σ zz_.2 ∧ (zz_.1 = fault_0)) := by
  unfold fJ_tell
  refine wp_waI hσ b_kJ_place (by (try dsimp only) <;> first | assumption | omega | ((try simp (disch := omega) only [w32_of, w64_of, w8_of]) <;> first | assumption | omega | (split <;> omega) | (refine And.intro ?_ ?_ <;> split <;> omega)) | omega) (by (try dsimp only) <;> first | assumption | omega | ((try simp (disch := omega) only [w32_of, w64_of, w8_of]) <;> first | assumption | omega | (split <;> omega) | (refine And.intro ?_ ?_ <;> split <;> omega)) | omega) (by (try dsimp only) <;> first | assumption | omega | ((try simp (disch := omega) only [w32_of, w64_of, w8_of]) <;> first | assumption | omega | (split <;> omega) | (refine And.intro ?_ ?_ <;> split <;> omega)) | omega) (fun σ_1 hσ_1 eσ_1 => ?_)
  try simp (disch := omega) only [w32_of, w64_of, w8_of] at eσ_1
  have flσ_1 := FC_sg eσ_1 (by first | decide | (rcases hE with rfl | rfl | rfl <;> decide))
  have frσ_1 : FC [kJ_place] [] σ σ_1 := FC_le flσ_1 (by first | decide | (rcases hE with rfl | rfl | rfl <;> decide)) (by simp)
  refine wp_waI hσ_1 b_kJ_place (by (try dsimp only) <;> first | assumption | omega | ((try simp (disch := omega) only [w32_of, w64_of, w8_of]) <;> first | assumption | omega | (split <;> omega) | (refine And.intro ?_ ?_ <;> split <;> omega)) | omega) (by (try dsimp only) <;> first | assumption | omega | ((try simp (disch := omega) only [w32_of, w64_of, w8_of]) <;> first | assumption | omega | (split <;> omega) | (refine And.intro ?_ ?_ <;> split <;> omega)) | omega) (by (try dsimp only) <;> first | assumption | omega | ((try simp (disch := omega) only [w32_of, w64_of, w8_of]) <;> first | assumption | omega | (split <;> omega) | (refine And.intro ?_ ?_ <;> split <;> omega)) | omega) (fun σ_3 hσ_3 eσ_3 => ?_)
  try simp (disch := omega) only [w32_of, w64_of, w8_of] at eσ_3
  have flσ_3 := FC_sg eσ_3 (by first | decide | (rcases hE with rfl | rfl | rfl <;> decide))
  have frσ_3 : FC [kJ_place] [] σ σ_3 := FC_tr frσ_1 flσ_3 (by first | decide | (rcases hE with rfl | rfl | rfl <;> decide)) (by first | decide | (rcases hE with rfl | rfl | rfl <;> decide)) (by simp) (by simp)
  exact wp_some ⟨hσ_3, frσ_3, (by (try dsimp only) <;> first | assumption | omega | ((try simp (disch := omega) only [w32_of, w64_of, w8_of]) <;> first | assumption | omega | (split <;> omega) | (refine And.intro ?_ ?_ <;> split <;> omega)) | omega)⟩
theorem s_J_innerFault {σ : SG} {parts_0 : Int} (hσ : II σ) (w0 : 0 ≤ parts_0 ∧ parts_0 ≤ 2048) : wp_ (fJ_innerFault σ parts_0) (fun zz_ => II zz_.2 ∧ FC [kJ_place] [] σ zz_.2 ∧ (0 ≤ zz_.1 ∧ zz_.1 ≤ 15)) := by
  unfold fJ_innerFault
  refine wp_bx (P := fun rr_ => II rr_.2 ∧ FC [kJ_place] [] σ rr_.2) ?_ ?_
  · refine wp_whl (fun ss_ => II ss_.2 ∧ FC [kJ_place] [] σ ss_.2 ∧ (0 ≤ ss_.1 ∧ ss_.1 ≤ 2048)) (fun ss_ => (2049 - ss_.1).toNat) ⟨hσ, (FC_refl _ _ _), (by (try dsimp only) <;> first | assumption | omega | ((try simp (disch := omega) only [w32_of, w64_of, w8_of]) <;> first | assumption | omega | (split <;> omega) | (refine And.intro ?_ ?_ <;> split <;> omega)) | omega)⟩ ?_
    rintro ⟨part_1, σ_2⟩ y2
    try dsimp only at y2 ⊢
    obtain ⟨hσ_2, frσ_2, g1⟩ := y2
    have c4 := w32_rng part_1
    have c5 := w32_rng parts_0
    refine wp_if (fun c3 => ?_) (fun c3 => ?_)
    · try simp (disch := omega) only [w32_of, w64_of, w8_of, decide_eq_true_eq, decide_eq_false_iff_not, Bool.not_eq_true] at c3
      refine wp_bx (P := fun rr_ => II rr_.2 ∧ FC [kJ_place] [] σ rr_.2) ?_ ?_
      · refine wp_whl (fun ss_ => II ss_.2 ∧ FC [kJ_place] [] σ ss_.2 ∧ (0 ≤ ss_.1 ∧ ss_.1 ≤ 2049)) (fun ss_ => (2050 - ss_.1).toNat) ⟨hσ_2, frσ_2, (by (try dsimp only) <;> first | assumption | omega | ((try simp (disch := omega) only [w32_of, w64_of, w8_of]) <;> first | assumption | omega | (split <;> omega) | (refine And.intro ?_ ?_ <;> split <;> omega)) | omega)⟩ ?_
        rintro ⟨other_11, σ_12⟩ y7
        try dsimp only at y7 ⊢
        obtain ⟨hσ_12, frσ_12, g6⟩ := y7
        have c9 := w32_rng other_11
        refine wp_if (fun c8 => ?_) (fun c8 => ?_)
        · try simp (disch := omega) only [w32_of, w64_of, w8_of, decide_eq_true_eq, decide_eq_false_iff_not, Bool.not_eq_true] at c8
          refine wp_bd (s_J_liesInPart (σ := σ_12) (part_0 := part_1) (other_0 := other_11) hσ_12 (by (try dsimp only) <;> first | assumption | omega | ((try simp (disch := omega) only [w32_of, w64_of, w8_of]) <;> first | assumption | omega | (split <;> omega) | (refine And.intro ?_ ?_ <;> split <;> omega)) | omega) (by (try dsimp only) <;> first | assumption | omega | ((try simp (disch := omega) only [w32_of, w64_of, w8_of]) <;> first | assumption | omega | (split <;> omega) | (refine And.intro ?_ ?_ <;> split <;> omega)) | omega)) ?_
          rintro x_36 - -
          refine wp_if (fun c11 => ?_) (fun c11 => ?_)
          · try simp (disch := omega) only [w32_of, w64_of, w8_of, decide_eq_true_eq, decide_eq_false_iff_not, Bool.not_eq_true] at c11
            refine wp_waI hσ_12 b_kJ_place (by (try dsimp only) <;> first | assumption | omega | ((try simp (disch := omega) only [w32_of, w64_of, w8_of]) <;> first | assumption | omega | (split <;> omega) | (refine And.intro ?_ ?_ <;> split <;> omega)) | omega) (by (try dsimp only) <;> first | assumption | omega | ((try simp (disch := omega) only [w32_of, w64_of, w8_of]) <;> first | assumption | omega | (split <;> omega) | (refine And.intro ?_ ?_ <;> split <;> omega)) | omega) (by (try dsimp only) <;> first | assumption | omega | ((try simp (disch := omega) only [w32_of, w64_of, w8_of]) <;> first | assumption | omega | (split <;> omega) | (refine And.intro ?_ ?_ <;> split <;> omega)) | omega) (fun σ_38 hσ_38 eσ_38 => ?_)
            try simp (disch := omega) only [w32_of, w64_of, w8_of] at eσ_38
            have flσ_38 := FC_sg eσ_38 (by first | decide | (rcases hE with rfl | rfl | rfl <;> decide))
            have frσ_38 : FC [kJ_place] [] σ σ_38 := FC_tr frσ_12 flσ_38 (by first | decide | (rcases hE with rfl | rfl | rfl <;> decide)) (by first | decide | (rcases hE with rfl | rfl | rfl <;> decide)) (by simp) (by simp)
            refine wp_bd (s_J_tell (σ := σ_38) (fault_0 := 11) (part_0 := part_1) (ring_0 := (-1)) hσ_38 (by (try dsimp only) <;> first | assumption | omega | ((try simp (disch := omega) only [w32_of, w64_of, w8_of]) <;> first | assumption | omega | (split <;> omega) | (refine And.intro ?_ ?_ <;> split <;> omega)) | omega) (by (try dsimp only) <;> first | assumption | omega | ((try simp (disch := omega) only [w32_of, w64_of, w8_of]) <;> first | assumption | omega | (split <;> omega) | (refine And.intro ?_ ?_ <;> split <;> omega)) | omega)) ?_
            rintro ⟨x_42, σ_41⟩ - y13
            try dsimp only at y13 ⊢
            obtain ⟨hσ_41, flσ_41, g12⟩ := y13
            have frσ_41 : FC [kJ_place] [] σ σ_41 := FC_tr frσ_38 flσ_41 (by first | decide | (rcases hE with rfl | rfl | rfl <;> decide)) (by first | decide | (rcases hE with rfl | rfl | rfl <;> decide)) (by simp) (by simp)
            try simp (disch := omega) only [w32_of, w64_of, w8_of] at g12
            exact wp_some (x_inr (x_inr (x_inr (x_inr ⟨hσ_41, frσ_41, (by (try dsimp only) <;> first | assumption | omega | ((try simp (disch := omega) only [w32_of, w64_of, w8_of]) <;> first | assumption | omega | (split <;> omega) | (refine And.intro ?_ ?_ <;> split <;> omega)) | omega)⟩))))
          · try simp (disch := omega) only [w32_of, w64_of, w8_of, decide_eq_true_eq, decide_eq_false_iff_not, Bool.not_eq_true] at c11
            refine wp_bd (s_J_liesInPart (σ := σ_12) (part_0 := other_11) (other_0 := part_1) hσ_12 (by (try dsimp only) <;> first | assumption | omega | ((try simp (disch := omega) only [w32_of, w64_of, w8_of]) <;> first | assumption | omega | (split <;> omega) | (refine And.intro ?_ ?_ <;> split <;> omega)) | omega) (by (try dsimp only) <;> first | assumption | omega | ((try simp (disch := omega) only [w32_of, w64_of, w8_of]) <;> first | assumption | omega | (split <;> omega) | (refine And.intro ?_ ?_ <;> split <;> omega)) | omega)) ?_
            rintro x_44 - -
            refine wp_if (fun c15 => ?_) (fun c15 => ?_)
            · try simp (disch := omega) only [w32_of, w64_of, w8_of, decide_eq_true_eq, decide_eq_false_iff_not, Bool.not_eq_true] at c15
              refine wp_waI hσ_12 b_kJ_place (by (try dsimp only) <;> first | assumption | omega | ((try simp (disch := omega) only [w32_of, w64_of, w8_of]) <;> first | assumption | omega | (split <;> omega) | (refine And.intro ?_ ?_ <;> split <;> omega)) | omega) (by (try dsimp only) <;> first | assumption | omega | ((try simp (disch := omega) only [w32_of, w64_of, w8_of]) <;> first | assumption | omega | (split <;> omega) | (refine And.intro ?_ ?_ <;> split <;> omega)) | omega) (by (try dsimp only) <;> first | assumption | omega | ((try simp (disch := omega) only [w32_of, w64_of, w8_of]) <;> first | assumption | omega | (split <;> omega) | (refine And.intro ?_ ?_ <;> split <;> omega)) | omega) (fun σ_46 hσ_46 eσ_46 => ?_)
              try simp (disch := omega) only [w32_of, w64_of, w8_of] at eσ_46
              have flσ_46 := FC_sg eσ_46 (by first | decide | (rcases hE with rfl | rfl | rfl <;> decide))
              have frσ_46 : FC [kJ_place] [] σ σ_46 := FC_tr frσ_12 flσ_46 (by first | decide | (rcases hE with rfl | rfl | rfl <;> decide)) (by first | decide | (rcases hE with rfl | rfl | rfl <;> decide)) (by simp) (by simp)
              refine wp_bd (s_J_tell (σ := σ_46) (fault_0 := 11) (part_0 := part_1) (ring_0 := (-1)) hσ_46 (by (try dsimp only) <;> first | assumption | omega | ((try simp (disch := omega) only [w32_of, w64_of, w8_of]) <;> first | assumption | omega | (split <;> omega) | (refine And.intro ?_ ?_ <;> split <;> omega)) | omega) (by (try dsimp only) <;> first | assumption | omega | ((try simp (disch := omega) only [w32_of, w64_of, w8_of]) <;> first | assumption | omega | (split <;> omega) | (refine And.intro ?_ ?_ <;> split <;> omega)) | omega)) ?_
              rintro ⟨x_50, σ_49⟩ - y17
              try dsimp only at y17 ⊢
              obtain ⟨hσ_49, flσ_49, g16⟩ := y17
              have frσ_49 : FC [kJ_place] [] σ σ_49 := FC_tr frσ_46 flσ_49 (by first | decide | (rcases hE with rfl | rfl | rfl <;> decide)) (by first | decide | (rcases hE with rfl | rfl | rfl <;> decide)) (by simp) (by simp)
              try simp (disch := omega) only [w32_of, w64_of, w8_of] at g16
              exact wp_some (x_inr (x_inr (x_inr (x_inr ⟨hσ_49, frσ_49, (by (try dsimp only) <;> first | assumption | omega | ((try simp (disch := omega) only [w32_of, w64_of, w8_of]) <;> first | assumption | omega | (split <;> omega) | (refine And.intro ?_ ?_ <;> split <;> omega)) | omega)⟩))))
            · try simp (disch := omega) only [w32_of, w64_of, w8_of, decide_eq_true_eq, decide_eq_false_iff_not, Bool.not_eq_true] at c15
              exact wp_some (x_inl ⟨⟨hσ_12, frσ_12, (by (try dsimp only) <;> first | assumption | omega | ((try simp (disch := omega) only [w32_of, w64_of, w8_of]) <;> first | assumption | omega | (split <;> omega) | (refine And.intro ?_ ?_ <;> split <;> omega)) | omega)⟩, (by (try dsimp only) <;> first | assumption | omega | ((try simp (disch := omega) only [w32_of, w64_of, w8_of]) <;> first | assumption | omega | (split <;> omega) | (refine And.intro ?_ ?_ <;> split <;> omega)) | omega)⟩)
        · try simp (disch := omega) only [w32_of, w64_of, w8_of, decide_eq_true_eq, decide_eq_false_iff_not, Bool.not_eq_true] at c8
          exact wp_some (x_inr (x_inl ⟨hσ_12, frσ_12⟩))
      rintro ⟨other_53, σ_54⟩ y18
      try dsimp only at y18 ⊢
      obtain ⟨hσ_54, frσ_54⟩ := y18
      exact wp_some (x_inl ⟨⟨hσ_54, frσ_54, (by (try dsimp only) <;> first | assumption | omega | ((try simp (disch := omega) only [w32_of, w64_of, w8_of]) <;> first | assumption | omega | (split <;> omega) | (refine And.intro ?_ ?_ <;> split <;> omega)) | omega)⟩, (by (try dsimp only) <;> first | assumption | omega | ((try simp (disch := omega) only [w32_of, w64_of, w8_of]) <;> first | assumption | omega | (split <;> omega) | (refine And.intro ?_ ?_ <;> split <;> omega)) | omega)⟩)
    · try simp (disch := omega) only [w32_of, w64_of, w8_of, decide_eq_true_eq, decide_eq_false_iff_not, Bool.not_eq_true] at c3
      exact wp_some (x_inr (x_inl ⟨hσ_2, frσ_2⟩))
  rintro ⟨part_58, σ_59⟩ y19
  try dsimp only at y19 ⊢
  obtain ⟨hσ_59, frσ_59⟩ := y19
  exact wp_some ⟨hσ_59, frσ_59, (by (try dsimp only) <;> first | assumption | omega | ((try simp (disch := omega) only [w32_of, w64_of, w8_of]) <;> first | assumption | omega | (split <;> omega) | (refine And.intro ?_ ?_ <;> split <;> omega)) | omega)⟩
theorem s_J_isOfOnePlace {σ : SG} {shape_0 : Nat} {from_0 : Int} {length_0 : Int} (hσ : II σ) (hs_shape_0 : isS shape_0) (w0 : 0 ≤ from_0) (w1 : 0 ≤ length_0 ∧ from_0 + length_0 ≤ 2048) : wp_ (fJ_isOfOnePlace σ shape_0 from_0 length_0) (fun zz_ => True) := by
  unfold fJ_isOfOnePlace
  refine wp_bx (P := fun rr_ => True) ?_ ?_
  · refine wp_whl (fun ss_ => (1 ≤ ss_ ∧ ss_ ≤ 2049)) (fun ss_ => (2050 - ss_).toNat) (by (try dsimp only) <;> first | assumption | omega | ((try simp (disch := omega) only [w32_of, w64_of, w8_of]) <;> first | assumption | omega | (split <;> omega) | (refine And.intro ?_ ?_ <;> split <;> omega)) | omega) ?_
    rintro i_1 g1
    have c3 := w32_rng i_1
    have c4 := w32_rng length_0
    refine wp_if (fun c2 => ?_) (fun c2 => ?_)
    · try simp (disch := omega) only [w32_of, w64_of, w8_of, decide_eq_true_eq, decide_eq_false_iff_not, Bool.not_eq_true] at c2
      refine wp_bd (s_A_areLike (σ := σ) (this_0 := shape_0) (i_0 := from_0) (j_0 := (from_0 + i_1)) hσ (by first | assumption | decide | omega) (by (try dsimp only) <;> first | assumption | omega | ((try simp (disch := omega) only [w32_of, w64_of, w8_of]) <;> first | assumption | omega | (split <;> omega) | (refine And.intro ?_ ?_ <;> split <;> omega)) | omega) (by (try dsimp only) <;> first | assumption | omega | ((try simp (disch := omega) only [w32_of, w64_of, w8_of]) <;> first | assumption | omega | (split <;> omega) | (refine And.intro ?_ ?_ <;> split <;> omega)) | omega)) ?_
      rintro x_11 - g5
      have c6 := iiA_x (s := shape_0) hσ (by first | assumption | decide | omega) from_0
      have c7 := iiA_x (s := shape_0) hσ (by first | assumption | decide | omega) (from_0 + i_1)
      have c8 := iiA_y (s := shape_0) hσ (by first | assumption | decide | omega) from_0
      have c9 := iiA_y (s := shape_0) hσ (by first | assumption | decide | omega) (from_0 + i_1)
      try simp (disch := omega) only [w32_of, w64_of, w8_of] at g5
      refine wp_if (fun c10 => ?_) (fun c10 => ?_)
      · have k11 := g5.mp c10
        try simp (disch := omega) only [w32_of, w64_of, w8_of] at k11
        try simp (disch := omega) only [w32_of, w64_of, w8_of, decide_eq_true_eq, decide_eq_false_iff_not, Bool.not_eq_true] at c10
        exact wp_some (x_inl ⟨(by (try dsimp only) <;> first | assumption | omega | ((try simp (disch := omega) only [w32_of, w64_of, w8_of]) <;> first | assumption | omega | (split <;> omega) | (refine And.intro ?_ ?_ <;> split <;> omega)) | omega), (by (try dsimp only) <;> first | assumption | omega | ((try simp (disch := omega) only [w32_of, w64_of, w8_of]) <;> first | assumption | omega | (split <;> omega) | (refine And.intro ?_ ?_ <;> split <;> omega)) | omega)⟩)
      · have k12 := fun q => c10 (g5.mpr q)
        try simp (disch := omega) only [w32_of, w64_of, w8_of] at k12
        try simp (disch := omega) only [w32_of, w64_of, w8_of, decide_eq_true_eq, decide_eq_false_iff_not, Bool.not_eq_true] at c10
        exact wp_some (x_inr (x_inr trivial))
    · try simp (disch := omega) only [w32_of, w64_of, w8_of, decide_eq_true_eq, decide_eq_false_iff_not, Bool.not_eq_true] at c2
      exact wp_some (x_inr (x_inl trivial))
  rintro i_15 -
  exact wp_some trivial
theorem s_J_holesFault {σ : SG} {part_0 : Int} (hσ : II σ) (w0 : 0 ≤ part_0 ∧ part_0 ≤ 2047) : wp_ (fJ_holesFault σ part_0) (fun zz_ => II zz_.2 ∧ FC [kJ_place] [] σ zz_.2 ∧ (0 ≤ zz_.1 ∧ zz_.1 ≤ 15)) := by
  unfold fJ_holesFault
  refine wp_bd (s_J_isEmpty (σ := σ) (part_0 := part_0) hσ (by (try dsimp only) <;> first | assumption | omega | ((try simp (disch := omega) only [w32_of, w64_of, w8_of]) <;> first | assumption | omega | (split <;> omega) | (refine And.intro ?_ ?_ <;> split <;> omega)) | omega)) ?_
  rintro x_2 - g1
  have c2 := ii_kJ_partBegin hσ part_0
  have c3 := ii_kJ_partEnd hσ part_0
  try simp (disch := omega) only [w32_of, w64_of, w8_of] at g1
  refine wp_if (fun c4 => ?_) (fun c4 => ?_)
  · try simp (disch := omega) only [w32_of, w64_of, w8_of, decide_eq_true_eq, decide_eq_false_iff_not, Bool.not_eq_true] at c4
    exact wp_some ⟨hσ, (FC_refl _ _ _), (by (try dsimp only) <;> first | assumption | omega | ((try simp (disch := omega) only [w32_of, w64_of, w8_of]) <;> first | assumption | omega | (split <;> omega) | (refine And.intro ?_ ?_ <;> split <;> omega)) | omega)⟩
  · have k6 := g1 (Bool.eq_false_iff.mpr c4)
    try simp (disch := omega) only [w32_of, w64_of, w8_of] at k6
    try simp (disch := omega) only [w32_of, w64_of, w8_of, decide_eq_true_eq, decide_eq_false_iff_not, Bool.not_eq_true] at c4
    have c7 := w32_rng part_0
    refine wp_rdI (by (try dsimp only) <;> first | assumption | omega | ((try simp (disch := omega) only [w32_of, w64_of, w8_of]) <;> first | assumption | omega | (split <;> omega) | (refine And.intro ?_ ?_ <;> split <;> omega)) | omega) (by (try dsimp only) <;> first | assumption | omega | ((try simp (disch := omega) only [w32_of, w64_of, w8_of]) <;> first | assumption | omega | (split <;> omega) | (refine And.intro ?_ ?_ <;> split <;> omega)) | omega) (fun x_4 e_x_4 => ?_)
    have b_x_4 : 0 ≤ x_4 ∧ x_4 ≤ 2048 := by rw [e_x_4]; exact ii_kJ_partBegin hσ _
    try simp (disch := omega) only [w32_of, w64_of, w8_of] at e_x_4
    refine wp_bx (P := fun rr_ => (1 ≤ rr_.1 ∧ rr_.1 ≤ 2049) ∧ II rr_.2 ∧ FC [kJ_place] [] σ rr_.2) ?_ ?_
    · refine wp_whl (fun ss_ => (1 ≤ ss_.1 ∧ ss_.1 ≤ 2049) ∧ II ss_.2 ∧ FC [kJ_place] [] σ ss_.2) (fun ss_ => (2050 - ss_.1).toNat) ⟨(by (try dsimp only) <;> first | assumption | omega | ((try simp (disch := omega) only [w32_of, w64_of, w8_of]) <;> first | assumption | omega | (split <;> omega) | (refine And.intro ?_ ?_ <;> split <;> omega)) | omega), hσ, (FC_refl _ _ _)⟩ ?_
      rintro ⟨hole_6, σ_7⟩ y9
      try dsimp only at y9 ⊢
      obtain ⟨g8, hσ_7, frσ_7⟩ := y9
      refine wp_rdI (by (try dsimp only) <;> first | assumption | omega | ((try simp (disch := omega) only [w32_of, w64_of, w8_of]) <;> first | assumption | omega | (split <;> omega) | (refine And.intro ?_ ?_ <;> split <;> omega)) | omega) (by (try dsimp only) <;> first | assumption | omega | ((try simp (disch := omega) only [w32_of, w64_of, w8_of]) <;> first | assumption | omega | (split <;> omega) | (refine And.intro ?_ ?_ <;> split <;> omega)) | omega) (fun x_15 e_x_15 => ?_)
      have b_x_15 : 0 ≤ x_15 ∧ x_15 ≤ 2048 := by rw [e_x_15]; exact ii_kJ_partEnd hσ_7 _
      rw [FC_at frσ_7 (c := kJ_partEnd) (by first | decide | (rcases hE with rfl | rfl | rfl <;> decide))] at e_x_15
      try simp (disch := omega) only [w32_of, w64_of, w8_of] at e_x_15
      have c10 := ii_kJ_partEnd hσ_7 part_0
      have c11 := FC_at frσ_7 (c := kJ_partEnd) (by first | decide | (rcases hE with rfl | rfl | rfl <;> decide)) part_0
      have c13 := w32_rng hole_6
      have c14 := w32_rng x_15
      refine wp_if (fun c12 => ?_) (fun c12 => ?_)
      · try simp (disch := omega) only [w32_of, w64_of, w8_of, decide_eq_true_eq, decide_eq_false_iff_not, Bool.not_eq_true] at c12
        refine wp_bd (s_J_liesIn (σ := σ_7) (ring_0 := hole_6) (other_0 := x_4) hσ_7 (by (try dsimp only) <;> first | assumption | omega | ((try simp (disch := omega) only [w32_of, w64_of, w8_of]) <;> first | assumption | omega | (split <;> omega) | (refine And.intro ?_ ?_ <;> split <;> omega)) | omega) (by (try dsimp only) <;> first | assumption | omega | ((try simp (disch := omega) only [w32_of, w64_of, w8_of]) <;> first | assumption | omega | (split <;> omega) | (refine And.intro ?_ ?_ <;> split <;> omega)) | omega)) ?_
        rintro x_19 - -
        refine wp_if (fun c16 => ?_) (fun c16 => ?_)
        · try simp (disch := omega) only [w32_of, w64_of, w8_of, decide_eq_true_eq, decide_eq_false_iff_not, Bool.not_eq_true] at c16
          exact wp_some (x_inl ⟨⟨(by (try dsimp only) <;> first | assumption | omega | ((try simp (disch := omega) only [w32_of, w64_of, w8_of]) <;> first | assumption | omega | (split <;> omega) | (refine And.intro ?_ ?_ <;> split <;> omega)) | omega), hσ_7, frσ_7⟩, (by (try dsimp only) <;> first | assumption | omega | ((try simp (disch := omega) only [w32_of, w64_of, w8_of]) <;> first | assumption | omega | (split <;> omega) | (refine And.intro ?_ ?_ <;> split <;> omega)) | omega)⟩)
        · try simp (disch := omega) only [w32_of, w64_of, w8_of, decide_eq_true_eq, decide_eq_false_iff_not, Bool.not_eq_true] at c16
          refine wp_rdI (by (try dsimp only) <;> first | assumption | omega | ((try simp (disch := omega) only [w32_of, w64_of, w8_of]) <;> first | assumption | omega | (split <;> omega) | (refine And.intro ?_ ?_ <;> split <;> omega)) | omega) (by (try dsimp only) <;> first | assumption | omega | ((try simp (disch := omega) only [w32_of, w64_of, w8_of]) <;> first | assumption | omega | (split <;> omega) | (refine And.intro ?_ ?_ <;> split <;> omega)) | omega) (fun x_22 e_x_22 => ?_)
          have b_x_22 : 0 ≤ x_22 ∧ x_22 ≤ 2047 := by rw [e_x_22]; exact ii_kJ_ringNumber hσ_7 _
          rw [FC_at frσ_7 (c := kJ_ringNumber) (by first | decide | (rcases hE with rfl | rfl | rfl <;> decide))] at e_x_22
          try simp (disch := omega) only [w32_of, w64_of, w8_of] at e_x_22
          have c17 := ii_kJ_ringNumber hσ_7 hole_6
          have c18 := FC_at frσ_7 (c := kJ_ringNumber) (by first | decide | (rcases hE with rfl | rfl | rfl <;> decide)) hole_6
          have c19 := ii_kJ_ringNumber hσ hole_6
          refine wp_bd (s_J_tell (σ := σ_7) (fault_0 := 6) (part_0 := part_0) (ring_0 := x_22) hσ_7 (by (try dsimp only) <;> first | assumption | omega | ((try simp (disch := omega) only [w32_of, w64_of, w8_of]) <;> first | assumption | omega | (split <;> omega) | (refine And.intro ?_ ?_ <;> split <;> omega)) | omega) (by (try dsimp only) <;> first | assumption | omega | ((try simp (disch := omega) only [w32_of, w64_of, w8_of]) <;> first | assumption | omega | (split <;> omega) | (refine And.intro ?_ ?_ <;> split <;> omega)) | omega)) ?_
          rintro ⟨x_26, σ_25⟩ - y21
          try dsimp only at y21 ⊢
          obtain ⟨hσ_25, flσ_25, g20⟩ := y21
          have frσ_25 : FC [kJ_place] [] σ σ_25 := FC_tr frσ_7 flσ_25 (by first | decide | (rcases hE with rfl | rfl | rfl <;> decide)) (by first | decide | (rcases hE with rfl | rfl | rfl <;> decide)) (by simp) (by simp)
          try simp (disch := omega) only [w32_of, w64_of, w8_of] at g20
          exact wp_some (x_inr (x_inr ⟨hσ_25, frσ_25, (by (try dsimp only) <;> first | assumption | omega | ((try simp (disch := omega) only [w32_of, w64_of, w8_of]) <;> first | assumption | omega | (split <;> omega) | (refine And.intro ?_ ?_ <;> split <;> omega)) | omega)⟩))
      · try simp (disch := omega) only [w32_of, w64_of, w8_of, decide_eq_true_eq, decide_eq_false_iff_not, Bool.not_eq_true] at c12
        exact wp_some (x_inr (x_inl ⟨(by (try dsimp only) <;> first | assumption | omega | ((try simp (disch := omega) only [w32_of, w64_of, w8_of]) <;> first | assumption | omega | (split <;> omega) | (refine And.intro ?_ ?_ <;> split <;> omega)) | omega), hσ_7, frσ_7⟩))
    rintro ⟨hole_28, σ_29⟩ y23
    try dsimp only at y23 ⊢
    obtain ⟨g22, hσ_29, frσ_29⟩ := y23
    refine wp_bx (P := fun rr_ => (1 ≤ rr_.1 ∧ rr_.1 ≤ 2049) ∧ II rr_.2 ∧ FC [kJ_place] [] σ rr_.2) ?_ ?_
    · refine wp_whl (fun ss_ => (1 ≤ ss_.1 ∧ ss_.1 ≤ 2049) ∧ II ss_.2 ∧ FC [kJ_place] [] σ ss_.2) (fun ss_ => (2050 - ss_.1).toNat) ⟨(by (try dsimp only) <;> first | assumption | omega | ((try simp (disch := omega) only [w32_of, w64_of, w8_of]) <;> first | assumption | omega | (split <;> omega) | (refine And.intro ?_ ?_ <;> split <;> omega)) | omega), hσ_29, frσ_29⟩ ?_
      rintro ⟨hole_30, σ_31⟩ y25
      try dsimp only at y25 ⊢
      obtain ⟨g24, hσ_31, frσ_31⟩ := y25
      refine wp_rdI (by (try dsimp only) <;> first | assumption | omega | ((try simp (disch := omega) only [w32_of, w64_of, w8_of]) <;> first | assumption | omega | (split <;> omega) | (refine And.intro ?_ ?_ <;> split <;> omega)) | omega) (by (try dsimp only) <;> first | assumption | omega | ((try simp (disch := omega) only [w32_of, w64_of, w8_of]) <;> first | assumption | omega | (split <;> omega) | (refine And.intro ?_ ?_ <;> split <;> omega)) | omega) (fun x_39 e_x_39 => ?_)
      have b_x_39 : 0 ≤ x_39 ∧ x_39 ≤ 2048 := by rw [e_x_39]; exact ii_kJ_partEnd hσ_31 _
      rw [FC_at frσ_31 (c := kJ_partEnd) (by first | decide | (rcases hE with rfl | rfl | rfl <;> decide))] at e_x_39
      try simp (disch := omega) only [w32_of, w64_of, w8_of] at e_x_39
      have c26 := ii_kJ_partEnd hσ_31 part_0
      have c27 := FC_at frσ_31 (c := kJ_partEnd) (by first | decide | (rcases hE with rfl | rfl | rfl <;> decide)) part_0
      have c29 := w32_rng hole_30
      have c30 := w32_rng x_39
      refine wp_if (fun c28 => ?_) (fun c28 => ?_)
      · try simp (disch := omega) only [w32_of, w64_of, w8_of, decide_eq_true_eq, decide_eq_false_iff_not, Bool.not_eq_true] at c28
        refine wp_bx (P := fun rr_ => (2 ≤ rr_.1 ∧ rr_.1 ≤ 2048) ∧ II rr_.2 ∧ FC [kJ_place] [] σ rr_.2) ?_ ?_
        · refine wp_whl (fun ss_ => (2 ≤ ss_.1 ∧ ss_.1 ≤ 2048) ∧ II ss_.2 ∧ FC [kJ_place] [] σ ss_.2) (fun ss_ => (2049 - ss_.1).toNat) ⟨(by (try dsimp only) <;> first | assumption | omega | ((try simp (disch := omega) only [w32_of, w64_of, w8_of]) <;> first | assumption | omega | (split <;> omega) | (refine And.intro ?_ ?_ <;> split <;> omega)) | omega), hσ_31, frσ_31⟩ ?_
          rintro ⟨other_42, σ_43⟩ y32
          try dsimp only at y32 ⊢
          obtain ⟨g31, hσ_43, frσ_43⟩ := y32
          refine wp_rdI (by (try dsimp only) <;> first | assumption | omega | ((try simp (disch := omega) only [w32_of, w64_of, w8_of]) <;> first | assumption | omega | (split <;> omega) | (refine And.intro ?_ ?_ <;> split <;> omega)) | omega) (by (try dsimp only) <;> first | assumption | omega | ((try simp (disch := omega) only [w32_of, w64_of, w8_of]) <;> first | assumption | omega | (split <;> omega) | (refine And.intro ?_ ?_ <;> split <;> omega)) | omega) (fun x_51 e_x_51 => ?_)
          have b_x_51 : 0 ≤ x_51 ∧ x_51 ≤ 2048 := by rw [e_x_51]; exact ii_kJ_partEnd hσ_43 _
          rw [FC_at frσ_43 (c := kJ_partEnd) (by first | decide | (rcases hE with rfl | rfl | rfl <;> decide))] at e_x_51
          try simp (disch := omega) only [w32_of, w64_of, w8_of] at e_x_51
          have c33 := ii_kJ_partEnd hσ_43 part_0
          have c34 := FC_at frσ_43 (c := kJ_partEnd) (by first | decide | (rcases hE with rfl | rfl | rfl <;> decide)) part_0
          have c36 := w32_rng other_42
          have c37 := w32_rng x_51
          refine wp_if (fun c35 => ?_) (fun c35 => ?_)
          · try simp (disch := omega) only [w32_of, w64_of, w8_of, decide_eq_true_eq, decide_eq_false_iff_not, Bool.not_eq_true] at c35
            refine wp_bd (s_J_liesIn (σ := σ_43) (ring_0 := hole_30) (other_0 := other_42) hσ_43 (by (try dsimp only) <;> first | assumption | omega | ((try simp (disch := omega) only [w32_of, w64_of, w8_of]) <;> first | assumption | omega | (split <;> omega) | (refine And.intro ?_ ?_ <;> split <;> omega)) | omega) (by (try dsimp only) <;> first | assumption | omega | ((try simp (disch := omega) only [w32_of, w64_of, w8_of]) <;> first | assumption | omega | (split <;> omega) | (refine And.intro ?_ ?_ <;> split <;> omega)) | omega)) ?_
            rintro x_75 - -
            refine wp_if (fun c39 => ?_) (fun c39 => ?_)
            · try simp (disch := omega) only [w32_of, w64_of, w8_of, decide_eq_true_eq, decide_eq_false_iff_not, Bool.not_eq_true] at c39
              refine wp_waI hσ_43 b_kJ_place (by (try dsimp only) <;> first | assumption | omega | ((try simp (disch := omega) only [w32_of, w64_of, w8_of]) <;> first | assumption | omega | (split <;> omega) | (refine And.intro ?_ ?_ <;> split <;> omega)) | omega) (by (try dsimp only) <;> first | assumption | omega | ((try simp (disch := omega) only [w32_of, w64_of, w8_of]) <;> first | assumption | omega | (split <;> omega) | (refine And.intro ?_ ?_ <;> split <;> omega)) | omega) (by (try dsimp only) <;> first | assumption | omega | ((try simp (disch := omega) only [w32_of, w64_of, w8_of]) <;> first | assumption | omega | (split <;> omega) | (refine And.intro ?_ ?_ <;> split <;> omega)) | omega) (fun σ_77 hσ_77 eσ_77 => ?_)
              try simp (disch := omega) only [w32_of, w64_of, w8_of] at eσ_77
              have flσ_77 := FC_sg eσ_77 (by first | decide | (rcases hE with rfl | rfl | rfl <;> decide))
              have frσ_77 : FC [kJ_place] [] σ σ_77 := FC_tr frσ_43 flσ_77 (by first | decide | (rcases hE with rfl | rfl | rfl <;> decide)) (by first | decide | (rcases hE with rfl | rfl | rfl <;> decide)) (by simp) (by simp)
              refine wp_rdI (by (try dsimp only) <;> first | assumption | omega | ((try simp (disch := omega) only [w32_of, w64_of, w8_of]) <;> first | assumption | omega | (split <;> omega) | (refine And.intro ?_ ?_ <;> split <;> omega)) | omega) (by (try dsimp only) <;> first | assumption | omega | ((try simp (disch := omega) only [w32_of, w64_of, w8_of]) <;> first | assumption | omega | (split <;> omega) | (refine And.intro ?_ ?_ <;> split <;> omega)) | omega) (fun x_79 e_x_79 => ?_)
              have b_x_79 : 0 ≤ x_79 ∧ x_79 ≤ 2047 := by rw [e_x_79]; exact ii_kJ_ringNumber hσ_77 _
              rw [FC_at frσ_77 (c := kJ_ringNumber) (by first | decide | (rcases hE with rfl | rfl | rfl <;> decide))] at e_x_79
              try simp (disch := omega) only [w32_of, w64_of, w8_of] at e_x_79
              have c40 := ii_kJ_ringNumber hσ_77 other_42
              have c41 := FC_at flσ_77 (c := kJ_ringNumber) (by first | decide | (rcases hE with rfl | rfl | rfl <;> decide)) other_42
              have c42 := ii_kJ_ringNumber hσ_43 other_42
              have c43 := FC_at frσ_43 (c := kJ_ringNumber) (by first | decide | (rcases hE with rfl | rfl | rfl <;> decide)) other_42
              have c44 := ii_kJ_ringNumber hσ other_42
              refine wp_waI hσ_77 b_kJ_place (by (try dsimp only) <;> first | assumption | omega | ((try simp (disch := omega) only [w32_of, w64_of, w8_of]) <;> first | assumption | omega | (split <;> omega) | (refine And.intro ?_ ?_ <;> split <;> omega)) | omega) (by (try dsimp only) <;> first | assumption | omega | ((try simp (disch := omega) only [w32_of, w64_of, w8_of]) <;> first | assumption | omega | (split <;> omega) | (refine And.intro ?_ ?_ <;> split <;> omega)) | omega) (by (try dsimp only) <;> first | assumption | omega | ((try simp (disch := omega) only [w32_of, w64_of, w8_of]) <;> first | assumption | omega | (split <;> omega) | (refine And.intro ?_ ?_ <;> split <;> omega)) | omega) (fun σ_81 hσ_81 eσ_81 => ?_)
              try simp (disch := omega) only [w32_of, w64_of, w8_of] at eσ_81
              have flσ_81 := FC_sg eσ_81 (by first | decide | (rcases hE with rfl | rfl | rfl <;> decide))
              have frσ_81 : FC [kJ_place] [] σ σ_81 := FC_tr frσ_77 flσ_81 (by first | decide | (rcases hE with rfl | rfl | rfl <;> decide)) (by first | decide | (rcases hE with rfl | rfl | rfl <;> decide)) (by simp) (by simp)
              refine wp_rdI (by (try dsimp only) <;> first | assumption | omega | ((try simp (disch := omega) only [w32_of, w64_of, w8_of]) <;> first | assumption | omega | (split <;> omega) | (refine And.intro ?_ ?_ <;> split <;> omega)) | omega) (by (try dsimp only) <;> first | assumption | omega | ((try simp (disch := omega) only [w32_of, w64_of, w8_of]) <;> first | assumption | omega | (split <;> omega) | (refine And.intro ?_ ?_ <;> split <;> omega)) | omega) (fun x_83 e_x_83 => ?_)
              have b_x_83 : 0 ≤ x_83 ∧ x_83 ≤ 2047 := by rw [e_x_83]; exact ii_kJ_ringNumber hσ_81 _
              rw [FC_at frσ_81 (c := kJ_ringNumber) (by first | decide | (rcases hE with rfl | rfl | rfl <;> decide))] at e_x_83
              try simp (disch := omega) only [w32_of, w64_of, w8_of] at e_x_83
              have c45 := ii_kJ_ringNumber hσ_81 hole_30
              have c46 := FC_at flσ_81 (c := kJ_ringNumber) (by first | decide | (rcases hE with rfl | rfl | rfl <;> decide)) hole_30
              have c47 := ii_kJ_ringNumber hσ_77 hole_30
              have c48 := FC_at flσ_77 (c := kJ_ringNumber) (by first | decide | (rcases hE with rfl | rfl | rfl <;> decide)) hole_30
              have c49 := ii_kJ_ringNumber hσ_43 hole_30
              have c50 := FC_at frσ_43 (c := kJ_ringNumber) (by first | decide | (rcases hE with rfl | rfl | rfl <;> decide)) hole_30
              have c51 := ii_kJ_ringNumber hσ hole_30
              refine wp_bd (s_J_tell (σ := σ_81) (fault_0 := 7) (part_0 := part_0) (ring_0 := x_83) hσ_81 (by (try dsimp only) <;> first | assumption | omega | ((try simp (disch := omega) only [w32_of, w64_of, w8_of]) <;> first | assumption | omega | (split <;> omega) | (refine And.intro ?_ ?_ <;> split <;> omega)) | omega) (by (try dsimp only) <;> first | assumption | omega | ((try simp (disch := omega) only [w32_of, w64_of, w8_of]) <;> first | assumption | omega | (split <;> omega) | (refine And.intro ?_ ?_ <;> split <;> omega)) | omega)) ?_
              rintro ⟨x_87, σ_86⟩ - y53
              try dsimp only at y53 ⊢
              obtain ⟨hσ_86, flσ_86, g52⟩ := y53
              have frσ_86 : FC [kJ_place] [] σ σ_86 := FC_tr frσ_81 flσ_86 (by first | decide | (rcases hE with rfl | rfl | rfl <;> decide)) (by first | decide | (rcases hE with rfl | rfl | rfl <;> decide)) (by simp) (by simp)
              try simp (disch := omega) only [w32_of, w64_of, w8_of] at g52
              exact wp_some (x_inr (x_inr (x_inr (x_inr ⟨hσ_86, frσ_86, (by (try dsimp only) <;> first | assumption | omega | ((try simp (disch := omega) only [w32_of, w64_of, w8_of]) <;> first | assumption | omega | (split <;> omega) | (refine And.intro ?_ ?_ <;> split <;> omega)) | omega)⟩))))
            · try simp (disch := omega) only [w32_of, w64_of, w8_of, decide_eq_true_eq, decide_eq_false_iff_not, Bool.not_eq_true] at c39
              refine wp_bd (s_J_liesIn (σ := σ_43) (ring_0 := other_42) (other_0 := hole_30) hσ_43 (by (try dsimp only) <;> first | assumption | omega | ((try simp (disch := omega) only [w32_of, w64_of, w8_of]) <;> first | assumption | omega | (split <;> omega) | (refine And.intro ?_ ?_ <;> split <;> omega)) | omega) (by (try dsimp only) <;> first | assumption | omega | ((try simp (disch := omega) only [w32_of, w64_of, w8_of]) <;> first | assumption | omega | (split <;> omega) | (refine And.intro ?_ ?_ <;> split <;> omega)) | omega)) ?_
              rintro x_89 - -
              refine wp_if (fun c55 => ?_) (fun c55 => ?_)
              · try simp (disch := omega) only [w32_of, w64_of, w8_of, decide_eq_true_eq, decide_eq_false_iff_not, Bool.not_eq_true] at c55
                refine wp_waI hσ_43 b_kJ_place (by (try dsimp only) <;> first | assumption | omega | ((try simp (disch := omega) only [w32_of, w64_of, w8_of]) <;> first | assumption | omega | (split <;> omega) | (refine And.intro ?_ ?_ <;> split <;> omega)) | omega) (by (try dsimp only) <;> first | assumption | omega | ((try simp (disch := omega) only [w32_of, w64_of, w8_of]) <;> first | assumption | omega | (split <;> omega) | (refine And.intro ?_ ?_ <;> split <;> omega)) | omega) (by (try dsimp only) <;> first | assumption | omega | ((try simp (disch := omega) only [w32_of, w64_of, w8_of]) <;> first | assumption | omega | (split <;> omega) | (refine And.intro ?_ ?_ <;> split <;> omega)) | omega) (fun σ_91 hσ_91 eσ_91 => ?_)
                try simp (disch := omega) only [w32_of, w64_of, w8_of] at eσ_91
                have flσ_91 := FC_sg eσ_91 (by first | decide | (rcases hE with rfl | rfl | rfl <;> decide))
                have frσ_91 : FC [kJ_place] [] σ σ_91 := FC_tr frσ_43 flσ_91 (by first | decide | (rcases hE with rfl | rfl | rfl <;> decide)) (by first | decide | (rcases hE with rfl | rfl | rfl <;> decide)) (by simp) (by simp)
                refine wp_rdI (by (try dsimp only) <;> first | assumption | omega | ((try simp (disch := omega) only [w32_of, w64_of, w8_of]) <;> first | assumption | omega | (split <;> omega) | (refine And.intro ?_ ?_ <;> split <;> omega)) | omega) (by (try dsimp only) <;> first | assumption | omega | ((try simp (disch := omega) only [w32_of, w64_of, w8_of]) <;> first | assumption | omega | (split <;> omega) | (refine And.intro ?_ ?_ <;> split <;> omega)) | omega) (fun x_93 e_x_93 => ?_)
                have b_x_93 : 0 ≤ x_93 ∧ x_93 ≤ 2047 := by rw [e_x_93]; exact ii_kJ_ringNumber hσ_91 _
                rw [FC_at frσ_91 (c := kJ_ringNumber) (by first | decide | (rcases hE with rfl | rfl | rfl <;> decide))] at e_x_93
                try simp (disch := omega) only [w32_of, w64_of, w8_of] at e_x_93
                have c56 := ii_kJ_ringNumber hσ_91 other_42
                have c57 := FC_at flσ_91 (c := kJ_ringNumber) (by first | decide | (rcases hE with rfl | rfl | rfl <;> decide)) other_42
                have c58 := ii_kJ_ringNumber hσ_43 other_42
                have c59 := FC_at frσ_43 (c := kJ_ringNumber) (by first | decide | (rcases hE with rfl | rfl | rfl <;> decide)) other_42
                have c60 := ii_kJ_ringNumber hσ other_42
                refine wp_waI hσ_91 b_kJ_place (by (try dsimp only) <;> first | assumption | omega | ((try simp (disch := omega) only [w32_of, w64_of, w8_of]) <;> first | assumption | omega | (split <;> omega) | (refine And.intro ?_ ?_ <;> split <;> omega)) | omega) (by (try dsimp only) <;> first | assumption | omega | ((try simp (disch := omega) only [w32_of, w64_of, w8_of]) <;> first | assumption | omega | (split <;> omega) | (refine And.intro ?_ ?_ <;> split <;> omega)) | omega) (by (try dsimp only) <;> first | assumption | omega | ((try simp (disch := omega) only [w32_of, w64_of, w8_of]) <;> first | assumption | omega | (split <;> omega) | (refine And.intro ?_ ?_ <;> split <;> omega)) | omega) (fun σ_95 hσ_95 eσ_95 => ?_)
                try simp (disch := omega) only [w32_of, w64_of, w8_of] at eσ_95
                have flσ_95 := FC_sg eσ_95 (by first | decide | (rcases hE with rfl | rfl | rfl <;> decide))
                have frσ_95 : FC [kJ_place] [] σ σ_95 := FC_tr frσ_91 flσ_95 (by first | decide | (rcases hE with rfl | rfl | rfl <;> decide)) (by first | decide | (rcases hE with rfl | rfl | rfl <;> decide)) (by simp) (by simp)
                refine wp_rdI (by (try dsimp only) <;> first | assumption | omega | ((try simp (disch := omega) only [w32_of, w64_of, w8_of]) <;> first | assumption | omega | (split <;> omega) | (refine And.intro ?_ ?_ <;> split <;> omega)) | omega) (by (try dsimp only) <;> first | assumption | omega | ((try simp (disch := omega) only [w32_of, w64_of, w8_of]) <;> first | assumption | omega | (split <;> omega) | (refine And.intro ?_ ?_ <;> split <;> omega)) | omega) (fun x_97 e_x_97 => ?_)
                have b_x_97 : 0 ≤ x_97 ∧ x_97 ≤ 2047 := by rw [e_x_97]; exact ii_kJ_ringNumber hσ_95 _
                rw [FC_at frσ_95 (c := kJ_ringNumber) (by first | decide | (rcases hE with rfl | rfl | rfl <;> decide))] at e_x_97
                try simp (disch := omega) only [w32_of, w64_of, w8_of] at e_x_97
                have c61 := ii_kJ_ringNumber hσ_95 hole_30
                have c62 := FC_at flσ_95 (c := kJ_ringNumber) (by first | decide | (rcases hE with rfl | rfl | rfl <;> decide)) hole_30
                have c63 := ii_kJ_ringNumber hσ_91 hole_30
                have c64 := FC_at flσ_91 (c := kJ_ringNumber) (by first | decide | (rcases hE with rfl | rfl | rfl <;> decide)) hole_30
                have c65 := ii_kJ_ringNumber hσ_43 hole_30
                have c66 := FC_at frσ_43 (c := kJ_ringNumber) (by first | decide | (rcases hE with rfl | rfl | rfl <;> decide)) hole_30
                have c67 := ii_kJ_ringNumber hσ hole_30
                refine wp_bd (s_J_tell (σ := σ_95) (fault_0 := 7) (part_0 := part_0) (ring_0 := x_97) hσ_95 (by (try dsimp only) <;> first | assumption | omega | ((try simp (disch := omega) only [w32_of, w64_of, w8_of]) <;> first | assumption | omega | (split <;> omega) | (refine And.intro ?_ ?_ <;> split <;> omega)) | omega) (by (try dsimp only) <;> first | assumption | omega | ((try simp (disch := omega) only [w32_of, w64_of, w8_of]) <;> first | assumption | omega | (split <;> omega) | (refine And.intro ?_ ?_ <;> split <;> omega)) | omega)) ?_
                rintro ⟨x_101, σ_100⟩ - y69
                try dsimp only at y69 ⊢
                obtain ⟨hσ_100, flσ_100, g68⟩ := y69
                have frσ_100 : FC [kJ_place] [] σ σ_100 := FC_tr frσ_95 flσ_100 (by first | decide | (rcases hE with rfl | rfl | rfl <;> decide)) (by first | decide | (rcases hE with rfl | rfl | rfl <;> decide)) (by simp) (by simp)
                try simp (disch := omega) only [w32_of, w64_of, w8_of] at g68
                exact wp_some (x_inr (x_inr (x_inr (x_inr ⟨hσ_100, frσ_100, (by (try dsimp only) <;> first | assumption | omega | ((try simp (disch := omega) only [w32_of, w64_of, w8_of]) <;> first | assumption | omega | (split <;> omega) | (refine And.intro ?_ ?_ <;> split <;> omega)) | omega)⟩))))
              · try simp (disch := omega) only [w32_of, w64_of, w8_of, decide_eq_true_eq, decide_eq_false_iff_not, Bool.not_eq_true] at c55
                exact wp_some (x_inl ⟨⟨(by (try dsimp only) <;> first | assumption | omega | ((try simp (disch := omega) only [w32_of, w64_of, w8_of]) <;> first | assumption | omega | (split <;> omega) | (refine And.intro ?_ ?_ <;> split <;> omega)) | omega), hσ_43, frσ_43⟩, (by (try dsimp only) <;> first | assumption | omega | ((try simp (disch := omega) only [w32_of, w64_of, w8_of]) <;> first | assumption | omega | (split <;> omega) | (refine And.intro ?_ ?_ <;> split <;> omega)) | omega)⟩)
          · try simp (disch := omega) only [w32_of, w64_of, w8_of, decide_eq_true_eq, decide_eq_false_iff_not, Bool.not_eq_true] at c35
            exact wp_some (x_inr (x_inl ⟨(by (try dsimp only) <;> first | assumption | omega | ((try simp (disch := omega) only [w32_of, w64_of, w8_of]) <;> first | assumption | omega | (split <;> omega) | (refine And.intro ?_ ?_ <;> split <;> omega)) | omega), hσ_43, frσ_43⟩))
        rintro ⟨other_104, σ_105⟩ y71
        try dsimp only at y71 ⊢
        obtain ⟨g70, hσ_105, frσ_105⟩ := y71
        exact wp_some (x_inl ⟨⟨(by (try dsimp only) <;> first | assumption | omega | ((try simp (disch := omega) only [w32_of, w64_of, w8_of]) <;> first | assumption | omega | (split <;> omega) | (refine And.intro ?_ ?_ <;> split <;> omega)) | omega), hσ_105, frσ_105⟩, (by (try dsimp only) <;> first | assumption | omega | ((try simp (disch := omega) only [w32_of, w64_of, w8_of]) <;> first | assumption | omega | (split <;> omega) | (refine And.intro ?_ ?_ <;> split <;> omega)) | omega)⟩)
      · try simp (disch := omega) only [w32_of, w64_of, w8_of, decide_eq_true_eq, decide_eq_false_iff_not, Bool.not_eq_true] at c28
        exact wp_some (x_inr (x_inl ⟨(by (try dsimp only) <;> first | assumption | omega | ((try simp (disch := omega) only [w32_of, w64_of, w8_of]) <;> first | assumption | omega | (split <;> omega) | (refine And.intro ?_ ?_ <;> split <;> omega)) | omega), hσ_31, frσ_31⟩))
    rintro ⟨hole_109, σ_110⟩ y73
    try dsimp only at y73 ⊢
    obtain ⟨g72, hσ_110, frσ_110⟩ := y73
    exact wp_some ⟨hσ_110, frσ_110, (by (try dsimp only) <;> first | assumption | omega | ((try simp (disch := omega) only [w32_of, w64_of, w8_of]) <;> first | assumption | omega | (split <;> omega) | (refine And.intro ?_ ?_ <;> split <;> omega)) | omega)⟩
theorem s_J_passes {σ : SG} {ring_0 : Int} {x_0 : Int} {y_0 : Int} (hσ : II σ) (w0 : 0 ≤ ring_0 ∧ ring_0 ≤ 2047) : wp_ (fJ_passes σ ring_0 x_0 y_0) (fun zz_ => True) := by
  unfold fJ_passes
  have c1 := w32_rng ring_0
  refine wp_rdI (by (try dsimp only) <;> first | assumption | omega | ((try simp (disch := omega) only [w32_of, w64_of, w8_of]) <;> first | assumption | omega | (split <;> omega) | (refine And.intro ?_ ?_ <;> split <;> omega)) | omega) (by (try dsimp only) <;> first | assumption | omega | ((try simp (disch := omega) only [w32_of, w64_of, w8_of]) <;> first | assumption | omega | (split <;> omega) | (refine And.intro ?_ ?_ <;> split <;> omega)) | omega) (fun x_1 e_x_1 => ?_)
  have b_x_1 : 0 ≤ x_1 ∧ x_1 ≤ 2047 := by rw [e_x_1]; exact ii_kJ_ringBegin hσ _
  try simp (disch := omega) only [w32_of, w64_of, w8_of] at e_x_1
  have c2 := ii_kJ_ringBegin hσ ring_0
  refine wp_bx (P := fun rr_ => (0 ≤ rr_ ∧ rr_ ≤ 2048)) ?_ ?_
  · refine wp_whl (fun ss_ => (0 ≤ ss_ ∧ ss_ ≤ 2048)) (fun ss_ => (2049 - ss_).toNat) (by (try dsimp only) <;> first | assumption | omega | ((try simp (disch := omega) only [w32_of, w64_of, w8_of]) <;> first | assumption | omega | (split <;> omega) | (refine And.intro ?_ ?_ <;> split <;> omega)) | omega) ?_
    rintro k_3 g3
    refine wp_rdI (by (try dsimp only) <;> first | assumption | omega | ((try simp (disch := omega) only [w32_of, w64_of, w8_of]) <;> first | assumption | omega | (split <;> omega) | (refine And.intro ?_ ?_ <;> split <;> omega)) | omega) (by (try dsimp only) <;> first | assumption | omega | ((try simp (disch := omega) only [w32_of, w64_of, w8_of]) <;> first | assumption | omega | (split <;> omega) | (refine And.intro ?_ ?_ <;> split <;> omega)) | omega) (fun x_11 e_x_11 => ?_)
    have b_x_11 : 0 ≤ x_11 ∧ x_11 ≤ 2048 := by rw [e_x_11]; exact ii_kJ_ringEnd hσ _
    try simp (disch := omega) only [w32_of, w64_of, w8_of] at e_x_11
    have c4 := ii_kJ_ringEnd hσ ring_0
    have c6 := w32_rng k_3
    have c7 := w32_rng x_11
    refine wp_if (fun c5 => ?_) (fun c5 => ?_)
    · try simp (disch := omega) only [w32_of, w64_of, w8_of, decide_eq_true_eq, decide_eq_false_iff_not, Bool.not_eq_true] at c5
      refine wp_rdI (by (try dsimp only) <;> first | assumption | omega | ((try simp (disch := omega) only [w32_of, w64_of, w8_of]) <;> first | assumption | omega | (split <;> omega) | (refine And.intro ?_ ?_ <;> split <;> omega)) | omega) (by (try dsimp only) <;> first | assumption | omega | ((try simp (disch := omega) only [w32_of, w64_of, w8_of]) <;> first | assumption | omega | (split <;> omega) | (refine And.intro ?_ ?_ <;> split <;> omega)) | omega) (fun x_14 e_x_14 => ?_)
      have b_x_14 : (-1000000000) ≤ x_14 ∧ x_14 ≤ 1000000000 := by rw [e_x_14]; exact iiE_ax (s := 179) hσ (by decide) _
      try simp (disch := omega) only [w32_of, w64_of, w8_of] at e_x_14
      have c8 : (-1000000000) ≤ σ 46080 k_3 ∧ σ 46080 k_3 ≤ 1000000000 := iiE_ax (s := 179) hσ (by decide) k_3
      refine wp_rdI (by (try dsimp only) <;> first | assumption | omega | ((try simp (disch := omega) only [w32_of, w64_of, w8_of]) <;> first | assumption | omega | (split <;> omega) | (refine And.intro ?_ ?_ <;> split <;> omega)) | omega) (by (try dsimp only) <;> first | assumption | omega | ((try simp (disch := omega) only [w32_of, w64_of, w8_of]) <;> first | assumption | omega | (split <;> omega) | (refine And.intro ?_ ?_ <;> split <;> omega)) | omega) (fun x_16 e_x_16 => ?_)
      have b_x_16 : (-1000000000) ≤ x_16 ∧ x_16 ≤ 1000000000 := by rw [e_x_16]; exact iiE_ay (s := 179) hσ (by decide) _
      try simp (disch := omega) only [w32_of, w64_of, w8_of] at e_x_16
      have c9 : (-1000000000) ≤ σ 46336 k_3 ∧ σ 46336 k_3 ≤ 1000000000 := iiE_ay (s := 179) hσ (by decide) k_3
      refine wp_rdI (by (try dsimp only) <;> first | assumption | omega | ((try simp (disch := omega) only [w32_of, w64_of, w8_of]) <;> first | assumption | omega | (split <;> omega) | (refine And.intro ?_ ?_ <;> split <;> omega)) | omega) (by (try dsimp only) <;> first | assumption | omega | ((try simp (disch := omega) only [w32_of, w64_of, w8_of]) <;> first | assumption | omega | (split <;> omega) | (refine And.intro ?_ ?_ <;> split <;> omega)) | omega) (fun x_18 e_x_18 => ?_)
      have b_x_18 : (-1000000000) ≤ x_18 ∧ x_18 ≤ 1000000000 := by rw [e_x_18]; exact iiE_bx (s := 179) hσ (by decide) _
      try simp (disch := omega) only [w32_of, w64_of, w8_of] at e_x_18
      have c10 : (-1000000000) ≤ σ 46592 k_3 ∧ σ 46592 k_3 ≤ 1000000000 := iiE_bx (s := 179) hσ (by decide) k_3
      refine wp_rdI (by (try dsimp only) <;> first | assumption | omega | ((try simp (disch := omega) only [w32_of, w64_of, w8_of]) <;> first | assumption | omega | (split <;> omega) | (refine And.intro ?_ ?_ <;> split <;> omega)) | omega) (by (try dsimp only) <;> first | assumption | omega | ((try simp (disch := omega) only [w32_of, w64_of, w8_of]) <;> first | assumption | omega | (split <;> omega) | (refine And.intro ?_ ?_ <;> split <;> omega)) | omega) (fun x_20 e_x_20 => ?_)
      have b_x_20 : (-1000000000) ≤ x_20 ∧ x_20 ≤ 1000000000 := by rw [e_x_20]; exact iiE_by (s := 179) hσ (by decide) _
      try simp (disch := omega) only [w32_of, w64_of, w8_of] at e_x_20
      have c11 : (-1000000000) ≤ σ 46848 k_3 ∧ σ 46848 k_3 ≤ 1000000000 := iiE_by (s := 179) hσ (by decide) k_3
      refine wp_if (fun c12 => ?_) (fun c12 => ?_)
      · try simp (disch := omega) only [w32_of, w64_of, w8_of, decide_eq_true_eq, decide_eq_false_iff_not, Bool.not_eq_true, fQ_isOnSegment] at c12
        exact wp_some (x_inr (x_inr trivial))
      · try simp (disch := omega) only [w32_of, w64_of, w8_of, decide_eq_true_eq, decide_eq_false_iff_not, Bool.not_eq_true, fQ_isOnSegment] at c12
        exact wp_some (x_inl ⟨(by (try dsimp only) <;> first | assumption | omega | ((try simp (disch := omega) only [w32_of, w64_of, w8_of]) <;> first | assumption | omega | (split <;> omega) | (refine And.intro ?_ ?_ <;> split <;> omega)) | omega), (by (try dsimp only) <;> first | assumption | omega | ((try simp (disch := omega) only [w32_of, w64_of, w8_of]) <;> first | assumption | omega | (split <;> omega) | (refine And.intro ?_ ?_ <;> split <;> omega)) | omega)⟩)
    · try simp (disch := omega) only [w32_of, w64_of, w8_of, decide_eq_true_eq, decide_eq_false_iff_not, Bool.not_eq_true] at c5
      exact wp_some (x_inr (x_inl (by (try dsimp only) <;> first | assumption | omega | ((try simp (disch := omega) only [w32_of, w64_of, w8_of]) <;> first | assumption | omega | (split <;> omega) | (refine And.intro ?_ ?_ <;> split <;> omega)) | omega)))
  rintro k_25 g13
  exact wp_some trivial
theorem s_J_rootOf {σ : SG} {ring_0 : Int} (hσ : II σ) (w0 : 0 ≤ ring_0 ∧ ring_0 ≤ 2047) : wp_ (fJ_rootOf σ ring_0) (fun zz_ => (0 ≤ zz_ ∧ zz_ ≤ 2047)) := by
  unfold fJ_rootOf
  refine wp_bd (P := fun rr_ => (0 ≤ rr_.1 ∧ rr_.1 ≤ 2047)) ?_ ?_
  · refine wp_whl (fun ss_ => (0 ≤ ss_.1 ∧ ss_.1 ≤ 2047) ∧ (0 ≤ ss_.2 ∧ ss_.2 ≤ 2048)) (fun ss_ => (2049 - ss_.2).toNat) ⟨(by (try dsimp only) <;> first | assumption | omega | ((try simp (disch := omega) only [w32_of, w64_of, w8_of]) <;> first | assumption | omega | (split <;> omega) | (refine And.intro ?_ ?_ <;> split <;> omega)) | omega), (by (try dsimp only) <;> first | assumption | omega | ((try simp (disch := omega) only [w32_of, w64_of, w8_of]) <;> first | assumption | omega | (split <;> omega) | (refine And.intro ?_ ?_ <;> split <;> omega)) | omega)⟩ ?_
    rintro ⟨root_1, step_2⟩ y3
    try dsimp only at y3 ⊢
    obtain ⟨g1, g2⟩ := y3
    have c5 := w32_rng step_2
    have c6 := ii_kJ_rings hσ 0
    have c7 := w32_rng (σ kJ_rings 0)
    refine wp_if (fun c4 => ?_) (fun c4 => ?_)
    · try simp (disch := omega) only [w32_of, w64_of, w8_of, decide_eq_true_eq, decide_eq_false_iff_not, Bool.not_eq_true] at c4
      have c8 := w32_rng root_1
      refine wp_rdI (by (try dsimp only) <;> first | assumption | omega | ((try simp (disch := omega) only [w32_of, w64_of, w8_of]) <;> first | assumption | omega | (split <;> omega) | (refine And.intro ?_ ?_ <;> split <;> omega)) | omega) (by (try dsimp only) <;> first | assumption | omega | ((try simp (disch := omega) only [w32_of, w64_of, w8_of]) <;> first | assumption | omega | (split <;> omega) | (refine And.intro ?_ ?_ <;> split <;> omega)) | omega) (fun x_19 e_x_19 => ?_)
      have b_x_19 : 0 ≤ x_19 ∧ x_19 ≤ 2047 := by rw [e_x_19]; exact ii_kJ_joined hσ _
      try simp (disch := omega) only [w32_of, w64_of, w8_of] at e_x_19
      have c9 := ii_kJ_joined hσ root_1
      have c11 := w32_rng x_19
      refine wp_if (fun c10 => ?_) (fun c10 => ?_)
      · try simp (disch := omega) only [w32_of, w64_of, w8_of, decide_eq_true_eq, decide_eq_false_iff_not, Bool.not_eq_true] at c10
        refine wp_rdI (by (try dsimp only) <;> first | assumption | omega | ((try simp (disch := omega) only [w32_of, w64_of, w8_of]) <;> first | assumption | omega | (split <;> omega) | (refine And.intro ?_ ?_ <;> split <;> omega)) | omega) (by (try dsimp only) <;> first | assumption | omega | ((try simp (disch := omega) only [w32_of, w64_of, w8_of]) <;> first | assumption | omega | (split <;> omega) | (refine And.intro ?_ ?_ <;> split <;> omega)) | omega) (fun x_22 e_x_22 => ?_)
        have b_x_22 : 0 ≤ x_22 ∧ x_22 ≤ 2047 := by rw [e_x_22]; exact ii_kJ_joined hσ _
        try simp (disch := omega) only [w32_of, w64_of, w8_of] at e_x_22
        exact wp_some (x_inl ⟨⟨(by (try dsimp only) <;> first | assumption | omega | ((try simp (disch := omega) only [w32_of, w64_of, w8_of]) <;> first | assumption | omega | (split <;> omega) | (refine And.intro ?_ ?_ <;> split <;> omega)) | omega), (by (try dsimp only) <;> first | assumption | omega | ((try simp (disch := omega) only [w32_of, w64_of, w8_of]) <;> first | assumption | omega | (split <;> omega) | (refine And.intro ?_ ?_ <;> split <;> omega)) | omega)⟩, (by (try dsimp only) <;> first | assumption | omega | ((try simp (disch := omega) only [w32_of, w64_of, w8_of]) <;> first | assumption | omega | (split <;> omega) | (refine And.intro ?_ ?_ <;> split <;> omega)) | omega)⟩)
      · try simp (disch := omega) only [w32_of, w64_of, w8_of, decide_eq_true_eq, decide_eq_false_iff_not, Bool.not_eq_true] at c10
        exact wp_some (x_inr (by (try dsimp only) <;> first | assumption | omega | ((try simp (disch := omega) only [w32_of, w64_of, w8_of]) <;> first | assumption | omega | (split <;> omega) | (refine And.intro ?_ ?_ <;> split <;> omega)) | omega))
    · try simp (disch := omega) only [w32_of, w64_of, w8_of, decide_eq_true_eq, decide_eq_false_iff_not, Bool.not_eq_true] at c4
      exact wp_some (x_inr (by (try dsimp only) <;> first | assumption | omega | ((try simp (disch := omega) only [w32_of, w64_of, w8_of]) <;> first | assumption | omega | (split <;> omega) | (refine And.intro ?_ ?_ <;> split <;> omega)) | omega))
  rintro ⟨root_27, step_28⟩ _ y13
  try dsimp only at y13 ⊢
  have g12 := y13
  exact wp_some (by (try dsimp only) <;> first | assumption | omega | ((try simp (disch := omega) only [w32_of, w64_of, w8_of]) <;> first | assumption | omega | (split <;> omega) | (refine And.intro ?_ ?_ <;> split <;> omega)) | omega)
theorem s_J_joinsInRound {σ : SG} {part_0 : Int} {ring_0 : Int} {x_0 : Int} {y_0 : Int} (hσ : II σ) (w0 : 0 ≤ part_0 ∧ part_0 ≤ 2047) (w1 : 0 ≤ ring_0 ∧ ring_0 ≤ 2047) (w2 : σ kJ_partBegin part_0 ≤ 2047) : wp_ (fJ_joinsInRound σ part_0 ring_0 x_0 y_0) (fun zz_ => II zz_.2 ∧ FC [kJ_joined] [] σ zz_.2) := by
  unfold fJ_joinsInRound
  have c1 := ii_kJ_partBegin hσ part_0
  have c2 := w32_rng part_0
  refine wp_rdI (by (try dsimp only) <;> first | assumption | omega | ((try simp (disch := omega) only [w32_of, w64_of, w8_of]) <;> first | assumption | omega | (split <;> omega) | (refine And.intro ?_ ?_ <;> split <;> omega)) | omega) (by (try dsimp only) <;> first | assumption | omega | ((try simp (disch := omega) only [w32_of, w64_of, w8_of]) <;> first | assumption | omega | (split <;> omega) | (refine And.intro ?_ ?_ <;> split <;> omega)) | omega) (fun x_1 e_x_1 => ?_)
  have b_x_1 : 0 ≤ x_1 ∧ x_1 ≤ 2048 := by rw [e_x_1]; exact ii_kJ_partBegin hσ _
  try simp (disch := omega) only [w32_of, w64_of, w8_of] at e_x_1
  have c3 := w32_rng x_1
  refine wp_rdI (by (try dsimp only) <;> first | assumption | omega | ((try simp (disch := omega) only [w32_of, w64_of, w8_of]) <;> first | assumption | omega | (split <;> omega) | (refine And.intro ?_ ?_ <;> split <;> omega)) | omega) (by (try dsimp only) <;> first | assumption | omega | ((try simp (disch := omega) only [w32_of, w64_of, w8_of]) <;> first | assumption | omega | (split <;> omega) | (refine And.intro ?_ ?_ <;> split <;> omega)) | omega) (fun x_3 e_x_3 => ?_)
  have b_x_3 : 0 ≤ x_3 ∧ x_3 ≤ 2047 := by rw [e_x_3]; exact ii_kJ_ringBegin hσ _
  try simp (disch := omega) only [w32_of, w64_of, w8_of] at e_x_3
  have c4 := ii_kJ_ringBegin hσ x_1
  refine wp_bx (P := fun rr_ => (0 ≤ rr_ ∧ rr_ ≤ 2047)) ?_ ?_
  · refine wp_whl (fun ss_ => (0 ≤ ss_ ∧ ss_ ≤ 2047)) (fun ss_ => (2048 - ss_).toNat) (by (try dsimp only) <;> first | assumption | omega | ((try simp (disch := omega) only [w32_of, w64_of, w8_of]) <;> first | assumption | omega | (split <;> omega) | (refine And.intro ?_ ?_ <;> split <;> omega)) | omega) ?_
    rintro k_5 g5
    have c6 := w32_rng ring_0
    refine wp_rdI (by (try dsimp only) <;> first | assumption | omega | ((try simp (disch := omega) only [w32_of, w64_of, w8_of]) <;> first | assumption | omega | (split <;> omega) | (refine And.intro ?_ ?_ <;> split <;> omega)) | omega) (by (try dsimp only) <;> first | assumption | omega | ((try simp (disch := omega) only [w32_of, w64_of, w8_of]) <;> first | assumption | omega | (split <;> omega) | (refine And.intro ?_ ?_ <;> split <;> omega)) | omega) (fun x_13 e_x_13 => ?_)
    have b_x_13 : 0 ≤ x_13 ∧ x_13 ≤ 2047 := by rw [e_x_13]; exact ii_kJ_ringBegin hσ _
    try simp (disch := omega) only [w32_of, w64_of, w8_of] at e_x_13
    have c7 := ii_kJ_ringBegin hσ ring_0
    have c9 := w32_rng k_5
    have c10 := w32_rng x_13
    refine wp_if (fun c8 => ?_) (fun c8 => ?_)
    · try simp (disch := omega) only [w32_of, w64_of, w8_of, decide_eq_true_eq, decide_eq_false_iff_not, Bool.not_eq_true] at c8
      have c11 : ((gsz 179 : Nat) : Int) = 2048 := by decide
      refine wp_bd (s_E_begins (σ := σ) (this_0 := 179) (i_0 := k_5) (x_0 := x_0) (y_0 := y_0) hσ (by decide) (by (try dsimp only) <;> first | assumption | omega | ((try simp (disch := omega) only [w32_of, w64_of, w8_of]) <;> first | assumption | omega | (split <;> omega) | (refine And.intro ?_ ?_ <;> split <;> omega)) | omega)) ?_
      rintro x_17 - -
      refine wp_if (fun c13 => ?_) (fun c13 => ?_)
      · try simp (disch := omega) only [w32_of, w64_of, w8_of, decide_eq_true_eq, decide_eq_false_iff_not, Bool.not_eq_true] at c13
        exact wp_some (x_inr (x_inr ⟨hσ, (FC_refl _ _ _)⟩))
      · try simp (disch := omega) only [w32_of, w64_of, w8_of, decide_eq_true_eq, decide_eq_false_iff_not, Bool.not_eq_true] at c13
        exact wp_some (x_inl ⟨(by (try dsimp only) <;> first | assumption | omega | ((try simp (disch := omega) only [w32_of, w64_of, w8_of]) <;> first | assumption | omega | (split <;> omega) | (refine And.intro ?_ ?_ <;> split <;> omega)) | omega), (by (try dsimp only) <;> first | assumption | omega | ((try simp (disch := omega) only [w32_of, w64_of, w8_of]) <;> first | assumption | omega | (split <;> omega) | (refine And.intro ?_ ?_ <;> split <;> omega)) | omega)⟩)
    · try simp (disch := omega) only [w32_of, w64_of, w8_of, decide_eq_true_eq, decide_eq_false_iff_not, Bool.not_eq_true] at c8
      exact wp_some (x_inr (x_inl (by (try dsimp only) <;> first | assumption | omega | ((try simp (disch := omega) only [w32_of, w64_of, w8_of]) <;> first | assumption | omega | (split <;> omega) | (refine And.intro ?_ ?_ <;> split <;> omega)) | omega)))
  rintro k_21 g14
  refine wp_rdI (by (try dsimp only) <;> first | assumption | omega | ((try simp (disch := omega) only [w32_of, w64_of, w8_of]) <;> first | assumption | omega | (split <;> omega) | (refine And.intro ?_ ?_ <;> split <;> omega)) | omega) (by (try dsimp only) <;> first | assumption | omega | ((try simp (disch := omega) only [w32_of, w64_of, w8_of]) <;> first | assumption | omega | (split <;> omega) | (refine And.intro ?_ ?_ <;> split <;> omega)) | omega) (fun x_22 e_x_22 => ?_)
  have b_x_22 : 0 ≤ x_22 ∧ x_22 ≤ 2048 := by rw [e_x_22]; exact ii_kJ_partBegin hσ _
  try simp (disch := omega) only [w32_of, w64_of, w8_of] at e_x_22
  refine wp_bx (P := fun rr_ => (0 ≤ rr_.1 ∧ rr_.1 ≤ 2048) ∧ II rr_.2 ∧ FC [kJ_joined] [] σ rr_.2) ?_ ?_
  · refine wp_whl (fun ss_ => (0 ≤ ss_.1 ∧ ss_.1 ≤ 2048) ∧ II ss_.2 ∧ FC [kJ_joined] [] σ ss_.2) (fun ss_ => (2049 - ss_.1).toNat) ⟨(by (try dsimp only) <;> first | assumption | omega | ((try simp (disch := omega) only [w32_of, w64_of, w8_of]) <;> first | assumption | omega | (split <;> omega) | (refine And.intro ?_ ?_ <;> split <;> omega)) | omega), hσ, (FC_refl _ _ _)⟩ ?_
    rintro ⟨other_24, σ_25⟩ y16
    try dsimp only at y16 ⊢
    obtain ⟨g15, hσ_25, frσ_25⟩ := y16
    refine wp_rdI (by (try dsimp only) <;> first | assumption | omega | ((try simp (disch := omega) only [w32_of, w64_of, w8_of]) <;> first | assumption | omega | (split <;> omega) | (refine And.intro ?_ ?_ <;> split <;> omega)) | omega) (by (try dsimp only) <;> first | assumption | omega | ((try simp (disch := omega) only [w32_of, w64_of, w8_of]) <;> first | assumption | omega | (split <;> omega) | (refine And.intro ?_ ?_ <;> split <;> omega)) | omega) (fun x_33 e_x_33 => ?_)
    have b_x_33 : 0 ≤ x_33 ∧ x_33 ≤ 2048 := by rw [e_x_33]; exact ii_kJ_partEnd hσ_25 _
    rw [FC_at frσ_25 (c := kJ_partEnd) (by first | decide | (rcases hE with rfl | rfl | rfl <;> decide))] at e_x_33
    try simp (disch := omega) only [w32_of, w64_of, w8_of] at e_x_33
    have c17 := ii_kJ_partEnd hσ_25 part_0
    have c18 := FC_at frσ_25 (c := kJ_partEnd) (by first | decide | (rcases hE with rfl | rfl | rfl <;> decide)) part_0
    have c19 := ii_kJ_partEnd hσ part_0
    have c21 := w32_rng other_24
    have c22 := w32_rng x_33
    refine wp_if (fun c20 => ?_) (fun c20 => ?_)
    · try simp (disch := omega) only [w32_of, w64_of, w8_of, decide_eq_true_eq, decide_eq_false_iff_not, Bool.not_eq_true] at c20
      have c24 := w32_rng ring_0
      refine wp_if (fun c23 => ?_) (fun c23 => ?_)
      · try simp (disch := omega) only [w32_of, w64_of, w8_of, decide_eq_true_eq, decide_eq_false_iff_not, Bool.not_eq_true] at c23
        exact wp_some (x_inl ⟨⟨(by (try dsimp only) <;> first | assumption | omega | ((try simp (disch := omega) only [w32_of, w64_of, w8_of]) <;> first | assumption | omega | (split <;> omega) | (refine And.intro ?_ ?_ <;> split <;> omega)) | omega), hσ_25, frσ_25⟩, (by (try dsimp only) <;> first | assumption | omega | ((try simp (disch := omega) only [w32_of, w64_of, w8_of]) <;> first | assumption | omega | (split <;> omega) | (refine And.intro ?_ ?_ <;> split <;> omega)) | omega)⟩)
      · try simp (disch := omega) only [w32_of, w64_of, w8_of, decide_eq_true_eq, decide_eq_false_iff_not, Bool.not_eq_true] at c23
        refine wp_bd (s_J_passes (σ := σ_25) (ring_0 := other_24) (x_0 := x_0) (y_0 := y_0) hσ_25 (by (try dsimp only) <;> first | assumption | omega | ((try simp (disch := omega) only [w32_of, w64_of, w8_of]) <;> first | assumption | omega | (split <;> omega) | (refine And.intro ?_ ?_ <;> split <;> omega)) | omega)) ?_
        rintro x_47 - -
        refine wp_if (fun c26 => ?_) (fun c26 => ?_)
        · try simp (disch := omega) only [w32_of, w64_of, w8_of, decide_eq_true_eq, decide_eq_false_iff_not, Bool.not_eq_true] at c26
          refine wp_bd (s_J_rootOf (σ := σ_25) (ring_0 := ring_0) hσ_25 (by (try dsimp only) <;> first | assumption | omega | ((try simp (disch := omega) only [w32_of, w64_of, w8_of]) <;> first | assumption | omega | (split <;> omega) | (refine And.intro ?_ ?_ <;> split <;> omega)) | omega)) ?_
          rintro x_50 - g27
          try simp (disch := omega) only [w32_of, w64_of, w8_of] at g27
          refine wp_bd (s_J_rootOf (σ := σ_25) (ring_0 := other_24) hσ_25 (by (try dsimp only) <;> first | assumption | omega | ((try simp (disch := omega) only [w32_of, w64_of, w8_of]) <;> first | assumption | omega | (split <;> omega) | (refine And.intro ?_ ?_ <;> split <;> omega)) | omega)) ?_
          rintro x_52 - g28
          try simp (disch := omega) only [w32_of, w64_of, w8_of] at g28
          have c30 := w32_rng x_50
          have c31 := w32_rng x_52
          refine wp_if (fun c29 => ?_) (fun c29 => ?_)
          · try simp (disch := omega) only [w32_of, w64_of, w8_of, decide_eq_true_eq, decide_eq_false_iff_not, Bool.not_eq_true] at c29
            exact wp_some (x_inr (x_inr ⟨hσ_25, frσ_25⟩))
          · try simp (disch := omega) only [w32_of, w64_of, w8_of, decide_eq_true_eq, decide_eq_false_iff_not, Bool.not_eq_true] at c29
            refine wp_waI hσ_25 b_kJ_joined (by (try dsimp only) <;> first | assumption | omega | ((try simp (disch := omega) only [w32_of, w64_of, w8_of]) <;> first | assumption | omega | (split <;> omega) | (refine And.intro ?_ ?_ <;> split <;> omega)) | omega) (by (try dsimp only) <;> first | assumption | omega | ((try simp (disch := omega) only [w32_of, w64_of, w8_of]) <;> first | assumption | omega | (split <;> omega) | (refine And.intro ?_ ?_ <;> split <;> omega)) | omega) (by (try dsimp only) <;> first | assumption | omega | ((try simp (disch := omega) only [w32_of, w64_of, w8_of]) <;> first | assumption | omega | (split <;> omega) | (refine And.intro ?_ ?_ <;> split <;> omega)) | omega) (fun σ_54 hσ_54 eσ_54 => ?_)
            try simp (disch := omega) only [w32_of, w64_of, w8_of] at eσ_54
            have flσ_54 := FC_sg eσ_54 (by first | decide | (rcases hE with rfl | rfl | rfl <;> decide))
            have frσ_54 : FC [kJ_joined] [] σ σ_54 := FC_tr frσ_25 flσ_54 (by first | decide | (rcases hE with rfl | rfl | rfl <;> decide)) (by first | decide | (rcases hE with rfl | rfl | rfl <;> decide)) (by simp) (by simp)
            exact wp_some (x_inl ⟨⟨(by (try dsimp only) <;> first | assumption | omega | ((try simp (disch := omega) only [w32_of, w64_of, w8_of]) <;> first | assumption | omega | (split <;> omega) | (refine And.intro ?_ ?_ <;> split <;> omega)) | omega), hσ_54, frσ_54⟩, (by (try dsimp only) <;> first | assumption | omega | ((try simp (disch := omega) only [w32_of, w64_of, w8_of]) <;> first | assumption | omega | (split <;> omega) | (refine And.intro ?_ ?_ <;> split <;> omega)) | omega)⟩)
        · try simp (disch := omega) only [w32_of, w64_of, w8_of, decide_eq_true_eq, decide_eq_false_iff_not, Bool.not_eq_true] at c26
          exact wp_some (x_inl ⟨⟨(by (try dsimp only) <;> first | assumption | omega | ((try simp (disch := omega) only [w32_of, w64_of, w8_of]) <;> first | assumption | omega | (split <;> omega) | (refine And.intro ?_ ?_ <;> split <;> omega)) | omega), hσ_25, frσ_25⟩, (by (try dsimp only) <;> first | assumption | omega | ((try simp (disch := omega) only [w32_of, w64_of, w8_of]) <;> first | assumption | omega | (split <;> omega) | (refine And.intro ?_ ?_ <;> split <;> omega)) | omega)⟩)
    · try simp (disch := omega) only [w32_of, w64_of, w8_of, decide_eq_true_eq, decide_eq_false_iff_not, Bool.not_eq_true] at c20
      exact wp_some (x_inr (x_inl ⟨(by (try dsimp only) <;> first | assumption | omega | ((try simp (disch := omega) only [w32_of, w64_of, w8_of]) <;> first | assumption | omega | (split <;> omega) | (refine And.intro ?_ ?_ <;> split <;> omega)) | omega), hσ_25, frσ_25⟩))
  rintro ⟨other_59, σ_60⟩ y33
  try dsimp only at y33 ⊢
  obtain ⟨g32, hσ_60, frσ_60⟩ := y33
  exact wp_some ⟨hσ_60, frσ_60⟩
theorem s_J_isSplit {σ : SG} {part_0 : Int} (hσ : II σ) (w0 : 0 ≤ part_0 ∧ part_0 ≤ 2047) : wp_ (fJ_isSplit σ part_0) (fun zz_ => II zz_.2 ∧ FC [kJ_joined] [] σ zz_.2) := by
  unfold fJ_isSplit
  have c1 := w32_rng part_0
  refine wp_rdI (by (try dsimp only) <;> first | assumption | omega | ((try simp (disch := omega) only [w32_of, w64_of, w8_of]) <;> first | assumption | omega | (split <;> omega) | (refine And.intro ?_ ?_ <;> split <;> omega)) | omega) (by (try dsimp only) <;> first | assumption | omega | ((try simp (disch := omega) only [w32_of, w64_of, w8_of]) <;> first | assumption | omega | (split <;> omega) | (refine And.intro ?_ ?_ <;> split <;> omega)) | omega) (fun x_1 e_x_1 => ?_)
  have b_x_1 : 0 ≤ x_1 ∧ x_1 ≤ 2048 := by rw [e_x_1]; exact ii_kJ_partEnd hσ _
  try simp (disch := omega) only [w32_of, w64_of, w8_of] at e_x_1
  have c2 := ii_kJ_partEnd hσ part_0
  refine wp_rdI (by (try dsimp only) <;> first | assumption | omega | ((try simp (disch := omega) only [w32_of, w64_of, w8_of]) <;> first | assumption | omega | (split <;> omega) | (refine And.intro ?_ ?_ <;> split <;> omega)) | omega) (by (try dsimp only) <;> first | assumption | omega | ((try simp (disch := omega) only [w32_of, w64_of, w8_of]) <;> first | assumption | omega | (split <;> omega) | (refine And.intro ?_ ?_ <;> split <;> omega)) | omega) (fun x_3 e_x_3 => ?_)
  have b_x_3 : 0 ≤ x_3 ∧ x_3 ≤ 2048 := by rw [e_x_3]; exact ii_kJ_partBegin hσ _
  try simp (disch := omega) only [w32_of, w64_of, w8_of] at e_x_3
  have c3 := ii_kJ_partBegin hσ part_0
  have c5 := w32_rng (x_1 - x_3)
  refine wp_if (fun c4 => ?_) (fun c4 => ?_)
  · try simp (disch := omega) only [w32_of, w64_of, w8_of, decide_eq_true_eq, decide_eq_false_iff_not, Bool.not_eq_true] at c4
    exact wp_some ⟨hσ, (FC_refl _ _ _)⟩
  · try simp (disch := omega) only [w32_of, w64_of, w8_of, decide_eq_true_eq, decide_eq_false_iff_not, Bool.not_eq_true] at c4
    refine wp_rdI (by (try dsimp only) <;> first | assumption | omega | ((try simp (disch := omega) only [w32_of, w64_of, w8_of]) <;> first | assumption | omega | (split <;> omega) | (refine And.intro ?_ ?_ <;> split <;> omega)) | omega) (by (try dsimp only) <;> first | assumption | omega | ((try simp (disch := omega) only [w32_of, w64_of, w8_of]) <;> first | assumption | omega | (split <;> omega) | (refine And.intro ?_ ?_ <;> split <;> omega)) | omega) (fun x_6 e_x_6 => ?_)
    have b_x_6 : 0 ≤ x_6 ∧ x_6 ≤ 2048 := by rw [e_x_6]; exact ii_kJ_partBegin hσ _
    try simp (disch := omega) only [w32_of, w64_of, w8_of] at e_x_6
    refine wp_bd (P := fun rr_ => (0 ≤ rr_.1 ∧ rr_.1 ≤ 2048) ∧ II rr_.2 ∧ FC [kJ_joined] [] σ rr_.2) ?_ ?_
    · refine wp_whl (fun ss_ => (0 ≤ ss_.1 ∧ ss_.1 ≤ 2048) ∧ II ss_.2 ∧ FC [kJ_joined] [] σ ss_.2) (fun ss_ => (2049 - ss_.1).toNat) ⟨(by (try dsimp only) <;> first | assumption | omega | ((try simp (disch := omega) only [w32_of, w64_of, w8_of]) <;> first | assumption | omega | (split <;> omega) | (refine And.intro ?_ ?_ <;> split <;> omega)) | omega), hσ, (FC_refl _ _ _)⟩ ?_
      rintro ⟨ring_8, σ_9⟩ y7
      try dsimp only at y7 ⊢
      obtain ⟨g6, hσ_9, frσ_9⟩ := y7
      refine wp_rdI (by (try dsimp only) <;> first | assumption | omega | ((try simp (disch := omega) only [w32_of, w64_of, w8_of]) <;> first | assumption | omega | (split <;> omega) | (refine And.intro ?_ ?_ <;> split <;> omega)) | omega) (by (try dsimp only) <;> first | assumption | omega | ((try simp (disch := omega) only [w32_of, w64_of, w8_of]) <;> first | assumption | omega | (split <;> omega) | (refine And.intro ?_ ?_ <;> split <;> omega)) | omega) (fun x_17 e_x_17 => ?_)
      have b_x_17 : 0 ≤ x_17 ∧ x_17 ≤ 2048 := by rw [e_x_17]; exact ii_kJ_partEnd hσ_9 _
      rw [FC_at frσ_9 (c := kJ_partEnd) (by first | decide | (rcases hE with rfl | rfl | rfl <;> decide))] at e_x_17
      try simp (disch := omega) only [w32_of, w64_of, w8_of] at e_x_17
      have c8 := ii_kJ_partEnd hσ_9 part_0
      have c9 := FC_at frσ_9 (c := kJ_partEnd) (by first | decide | (rcases hE with rfl | rfl | rfl <;> decide)) part_0
      have c11 := w32_rng ring_8
      have c12 := w32_rng x_17
      refine wp_if (fun c10 => ?_) (fun c10 => ?_)
      · try simp (disch := omega) only [w32_of, w64_of, w8_of, decide_eq_true_eq, decide_eq_false_iff_not, Bool.not_eq_true] at c10
        refine wp_waI hσ_9 b_kJ_joined (by (try dsimp only) <;> first | assumption | omega | ((try simp (disch := omega) only [w32_of, w64_of, w8_of]) <;> first | assumption | omega | (split <;> omega) | (refine And.intro ?_ ?_ <;> split <;> omega)) | omega) (by (try dsimp only) <;> first | assumption | omega | ((try simp (disch := omega) only [w32_of, w64_of, w8_of]) <;> first | assumption | omega | (split <;> omega) | (refine And.intro ?_ ?_ <;> split <;> omega)) | omega) (by (try dsimp only) <;> first | assumption | omega | ((try simp (disch := omega) only [w32_of, w64_of, w8_of]) <;> first | assumption | omega | (split <;> omega) | (refine And.intro ?_ ?_ <;> split <;> omega)) | omega) (fun σ_20 hσ_20 eσ_20 => ?_)
        try simp (disch := omega) only [w32_of, w64_of, w8_of] at eσ_20
        have flσ_20 := FC_sg eσ_20 (by first | decide | (rcases hE with rfl | rfl | rfl <;> decide))
        have frσ_20 : FC [kJ_joined] [] σ σ_20 := FC_tr frσ_9 flσ_20 (by first | decide | (rcases hE with rfl | rfl | rfl <;> decide)) (by first | decide | (rcases hE with rfl | rfl | rfl <;> decide)) (by simp) (by simp)
        exact wp_some (x_inl ⟨⟨(by (try dsimp only) <;> first | assumption | omega | ((try simp (disch := omega) only [w32_of, w64_of, w8_of]) <;> first | assumption | omega | (split <;> omega) | (refine And.intro ?_ ?_ <;> split <;> omega)) | omega), hσ_20, frσ_20⟩, (by (try dsimp only) <;> first | assumption | omega | ((try simp (disch := omega) only [w32_of, w64_of, w8_of]) <;> first | assumption | omega | (split <;> omega) | (refine And.intro ?_ ?_ <;> split <;> omega)) | omega)⟩)
      · try simp (disch := omega) only [w32_of, w64_of, w8_of, decide_eq_true_eq, decide_eq_false_iff_not, Bool.not_eq_true] at c10
        exact wp_some (x_inr ⟨(by (try dsimp only) <;> first | assumption | omega | ((try simp (disch := omega) only [w32_of, w64_of, w8_of]) <;> first | assumption | omega | (split <;> omega) | (refine And.intro ?_ ?_ <;> split <;> omega)) | omega), hσ_9, frσ_9⟩)
    rintro ⟨ring_24, σ_25⟩ _ y14
    try dsimp only at y14 ⊢
    obtain ⟨g13, hσ_25, frσ_25⟩ := y14
    refine wp_rdI (by (try dsimp only) <;> first | assumption | omega | ((try simp (disch := omega) only [w32_of, w64_of, w8_of]) <;> first | assumption | omega | (split <;> omega) | (refine And.intro ?_ ?_ <;> split <;> omega)) | omega) (by (try dsimp only) <;> first | assumption | omega | ((try simp (disch := omega) only [w32_of, w64_of, w8_of]) <;> first | assumption | omega | (split <;> omega) | (refine And.intro ?_ ?_ <;> split <;> omega)) | omega) (fun x_26 e_x_26 => ?_)
    have b_x_26 : 0 ≤ x_26 ∧ x_26 ≤ 2048 := by rw [e_x_26]; exact ii_kJ_partBegin hσ_25 _
    rw [FC_at frσ_25 (c := kJ_partBegin) (by first | decide | (rcases hE with rfl | rfl | rfl <;> decide))] at e_x_26
    try simp (disch := omega) only [w32_of, w64_of, w8_of] at e_x_26
    have c15 := ii_kJ_partBegin hσ_25 part_0
    have c16 := FC_at frσ_25 (c := kJ_partBegin) (by first | decide | (rcases hE with rfl | rfl | rfl <;> decide)) part_0
    refine wp_bx (P := fun rr_ => (0 ≤ rr_.1 ∧ rr_.1 ≤ 2048) ∧ II rr_.2 ∧ FC [kJ_joined] [] σ rr_.2) ?_ ?_
    · refine wp_whl (fun ss_ => (0 ≤ ss_.1 ∧ ss_.1 ≤ 2048) ∧ II ss_.2 ∧ FC [kJ_joined] [] σ ss_.2) (fun ss_ => (2049 - ss_.1).toNat) ⟨(by (try dsimp only) <;> first | assumption | omega | ((try simp (disch := omega) only [w32_of, w64_of, w8_of]) <;> first | assumption | omega | (split <;> omega) | (refine And.intro ?_ ?_ <;> split <;> omega)) | omega), hσ_25, frσ_25⟩ ?_
      rintro ⟨ring_28, σ_29⟩ y18
      try dsimp only at y18 ⊢
      obtain ⟨g17, hσ_29, frσ_29⟩ := y18
      refine wp_rdI (by (try dsimp only) <;> first | assumption | omega | ((try simp (disch := omega) only [w32_of, w64_of, w8_of]) <;> first | assumption | omega | (split <;> omega) | (refine And.intro ?_ ?_ <;> split <;> omega)) | omega) (by (try dsimp only) <;> first | assumption | omega | ((try simp (disch := omega) only [w32_of, w64_of, w8_of]) <;> first | assumption | omega | (split <;> omega) | (refine And.intro ?_ ?_ <;> split <;> omega)) | omega) (fun x_37 e_x_37 => ?_)
      have b_x_37 : 0 ≤ x_37 ∧ x_37 ≤ 2048 := by rw [e_x_37]; exact ii_kJ_partEnd hσ_29 _
      rw [FC_at frσ_29 (c := kJ_partEnd) (by first | decide | (rcases hE with rfl | rfl | rfl <;> decide))] at e_x_37
      try simp (disch := omega) only [w32_of, w64_of, w8_of] at e_x_37
      have c19 := ii_kJ_partEnd hσ_29 part_0
      have c20 := FC_at frσ_29 (c := kJ_partEnd) (by first | decide | (rcases hE with rfl | rfl | rfl <;> decide)) part_0
      have c22 := w32_rng ring_28
      have c23 := w32_rng x_37
      refine wp_if (fun c21 => ?_) (fun c21 => ?_)
      · try simp (disch := omega) only [w32_of, w64_of, w8_of, decide_eq_true_eq, decide_eq_false_iff_not, Bool.not_eq_true] at c21
        refine wp_rdI (by (try dsimp only) <;> first | assumption | omega | ((try simp (disch := omega) only [w32_of, w64_of, w8_of]) <;> first | assumption | omega | (split <;> omega) | (refine And.intro ?_ ?_ <;> split <;> omega)) | omega) (by (try dsimp only) <;> first | assumption | omega | ((try simp (disch := omega) only [w32_of, w64_of, w8_of]) <;> first | assumption | omega | (split <;> omega) | (refine And.intro ?_ ?_ <;> split <;> omega)) | omega) (fun x_40 e_x_40 => ?_)
        have b_x_40 : 0 ≤ x_40 ∧ x_40 ≤ 2047 := by rw [e_x_40]; exact ii_kJ_ringBegin hσ_29 _
        rw [FC_at frσ_29 (c := kJ_ringBegin) (by first | decide | (rcases hE with rfl | rfl | rfl <;> decide))] at e_x_40
        try simp (disch := omega) only [w32_of, w64_of, w8_of] at e_x_40
        have c24 := ii_kJ_ringBegin hσ_29 ring_28
        have c25 := FC_at frσ_29 (c := kJ_ringBegin) (by first | decide | (rcases hE with rfl | rfl | rfl <;> decide)) ring_28
        have c26 := ii_kJ_ringBegin hσ ring_28
        refine wp_bx (P := fun rr_ => (0 ≤ rr_.1 ∧ rr_.1 ≤ 2048) ∧ II rr_.2 ∧ FC [kJ_joined] [] σ rr_.2) ?_ ?_
        · refine wp_whl (fun ss_ => (0 ≤ ss_.1 ∧ ss_.1 ≤ 2048) ∧ II ss_.2 ∧ FC [kJ_joined] [] σ ss_.2) (fun ss_ => (2049 - ss_.1).toNat) ⟨(by (try dsimp only) <;> first | assumption | omega | ((try simp (disch := omega) only [w32_of, w64_of, w8_of]) <;> first | assumption | omega | (split <;> omega) | (refine And.intro ?_ ?_ <;> split <;> omega)) | omega), hσ_29, frσ_29⟩ ?_
          rintro ⟨i_42, σ_43⟩ y28
          try dsimp only at y28 ⊢
          obtain ⟨g27, hσ_43, frσ_43⟩ := y28
          refine wp_rdI (by (try dsimp only) <;> first | assumption | omega | ((try simp (disch := omega) only [w32_of, w64_of, w8_of]) <;> first | assumption | omega | (split <;> omega) | (refine And.intro ?_ ?_ <;> split <;> omega)) | omega) (by (try dsimp only) <;> first | assumption | omega | ((try simp (disch := omega) only [w32_of, w64_of, w8_of]) <;> first | assumption | omega | (split <;> omega) | (refine And.intro ?_ ?_ <;> split <;> omega)) | omega) (fun x_51 e_x_51 => ?_)
          have b_x_51 : 0 ≤ x_51 ∧ x_51 ≤ 2048 := by rw [e_x_51]; exact ii_kJ_ringEnd hσ_43 _
          rw [FC_at frσ_43 (c := kJ_ringEnd) (by first | decide | (rcases hE with rfl | rfl | rfl <;> decide))] at e_x_51
          try simp (disch := omega) only [w32_of, w64_of, w8_of] at e_x_51
          have c29 := ii_kJ_ringEnd hσ_43 ring_28
          have c30 := FC_at frσ_43 (c := kJ_ringEnd) (by first | decide | (rcases hE with rfl | rfl | rfl <;> decide)) ring_28
          have c31 := ii_kJ_ringEnd hσ ring_28
          have c33 := w32_rng i_42
          have c34 := w32_rng x_51
          refine wp_if (fun c32 => ?_) (fun c32 => ?_)
          · try simp (disch := omega) only [w32_of, w64_of, w8_of, decide_eq_true_eq, decide_eq_false_iff_not, Bool.not_eq_true] at c32
            refine wp_rdI (by (try dsimp only) <;> first | assumption | omega | ((try simp (disch := omega) only [w32_of, w64_of, w8_of]) <;> first | assumption | omega | (split <;> omega) | (refine And.intro ?_ ?_ <;> split <;> omega)) | omega) (by (try dsimp only) <;> first | assumption | omega | ((try simp (disch := omega) only [w32_of, w64_of, w8_of]) <;> first | assumption | omega | (split <;> omega) | (refine And.intro ?_ ?_ <;> split <;> omega)) | omega) (fun x_54 e_x_54 => ?_)
            have b_x_54 : (-1000000000) ≤ x_54 ∧ x_54 ≤ 1000000000 := by rw [e_x_54]; exact iiE_ax (s := 179) hσ_43 (by decide) _
            rw [FC_at frσ_43 (c := 46080) (by first | decide | (rcases hE with rfl | rfl | rfl <;> decide))] at e_x_54
            try simp (disch := omega) only [w32_of, w64_of, w8_of] at e_x_54
            have c35 : (-1000000000) ≤ σ_43 46080 i_42 ∧ σ_43 46080 i_42 ≤ 1000000000 := iiE_ax (s := 179) hσ_43 (by decide) i_42
            have c36 := FC_at frσ_43 (c := 46080) (by first | decide | (rcases hE with rfl | rfl | rfl <;> decide)) i_42
            have c37 : (-1000000000) ≤ σ 46080 i_42 ∧ σ 46080 i_42 ≤ 1000000000 := iiE_ax (s := 179) hσ (by decide) i_42
            refine wp_rdI (by (try dsimp only) <;> first | assumption | omega | ((try simp (disch := omega) only [w32_of, w64_of, w8_of]) <;> first | assumption | omega | (split <;> omega) | (refine And.intro ?_ ?_ <;> split <;> omega)) | omega) (by (try dsimp only) <;> first | assumption | omega | ((try simp (disch := omega) only [w32_of, w64_of, w8_of]) <;> first | assumption | omega | (split <;> omega) | (refine And.intro ?_ ?_ <;> split <;> omega)) | omega) (fun x_56 e_x_56 => ?_)
            have b_x_56 : (-1000000000) ≤ x_56 ∧ x_56 ≤ 1000000000 := by rw [e_x_56]; exact iiE_ay (s := 179) hσ_43 (by decide) _
            rw [FC_at frσ_43 (c := 46336) (by first | decide | (rcases hE with rfl | rfl | rfl <;> decide))] at e_x_56
            try simp (disch := omega) only [w32_of, w64_of, w8_of] at e_x_56
            have c38 : (-1000000000) ≤ σ_43 46336 i_42 ∧ σ_43 46336 i_42 ≤ 1000000000 := iiE_ay (s := 179) hσ_43 (by decide) i_42
            have c39 := FC_at frσ_43 (c := 46336) (by first | decide | (rcases hE with rfl | rfl | rfl <;> decide)) i_42
            have c40 : (-1000000000) ≤ σ 46336 i_42 ∧ σ 46336 i_42 ≤ 1000000000 := iiE_ay (s := 179) hσ (by decide) i_42
            have c41 := ii_kJ_partBegin hσ_43 part_0
            have c42 := FC_at frσ_43 (c := kJ_partBegin) (by first | decide | (rcases hE with rfl | rfl | rfl <;> decide)) part_0
            refine wp_bd (s_J_joinsInRound (σ := σ_43) (part_0 := part_0) (ring_0 := ring_28) (x_0 := x_54) (y_0 := x_56) hσ_43 (by (try dsimp only) <;> first | assumption | omega | ((try simp (disch := omega) only [w32_of, w64_of, w8_of]) <;> first | assumption | omega | (split <;> omega) | (refine And.intro ?_ ?_ <;> split <;> omega)) | omega) (by (try dsimp only) <;> first | assumption | omega | ((try simp (disch := omega) only [w32_of, w64_of, w8_of]) <;> first | assumption | omega | (split <;> omega) | (refine And.intro ?_ ?_ <;> split <;> omega)) | omega) (by (try dsimp only) <;> first | assumption | omega | ((try simp (disch := omega) only [w32_of, w64_of, w8_of]) <;> first | assumption | omega | (split <;> omega) | (refine And.intro ?_ ?_ <;> split <;> omega)) | omega)) ?_
            rintro ⟨x_60, σ_59⟩ - y43
            try dsimp only at y43 ⊢
            obtain ⟨hσ_59, flσ_59⟩ := y43
            have frσ_59 : FC [kJ_joined] [] σ σ_59 := FC_tr frσ_43 flσ_59 (by first | decide | (rcases hE with rfl | rfl | rfl <;> decide)) (by first | decide | (rcases hE with rfl | rfl | rfl <;> decide)) (by simp) (by simp)
            refine wp_if (fun c44 => ?_) (fun c44 => ?_)
            · try simp (disch := omega) only [w32_of, w64_of, w8_of, decide_eq_true_eq, decide_eq_false_iff_not, Bool.not_eq_true] at c44
              exact wp_some (x_inr (x_inr (x_inr (x_inr ⟨hσ_59, frσ_59⟩))))
            · try simp (disch := omega) only [w32_of, w64_of, w8_of, decide_eq_true_eq, decide_eq_false_iff_not, Bool.not_eq_true] at c44
              exact wp_some (x_inl ⟨⟨(by (try dsimp only) <;> first | assumption | omega | ((try simp (disch := omega) only [w32_of, w64_of, w8_of]) <;> first | assumption | omega | (split <;> omega) | (refine And.intro ?_ ?_ <;> split <;> omega)) | omega), hσ_59, frσ_59⟩, (by (try dsimp only) <;> first | assumption | omega | ((try simp (disch := omega) only [w32_of, w64_of, w8_of]) <;> first | assumption | omega | (split <;> omega) | (refine And.intro ?_ ?_ <;> split <;> omega)) | omega)⟩)
          · try simp (disch := omega) only [w32_of, w64_of, w8_of, decide_eq_true_eq, decide_eq_false_iff_not, Bool.not_eq_true] at c32
            exact wp_some (x_inr (x_inl ⟨(by (try dsimp only) <;> first | assumption | omega | ((try simp (disch := omega) only [w32_of, w64_of, w8_of]) <;> first | assumption | omega | (split <;> omega) | (refine And.intro ?_ ?_ <;> split <;> omega)) | omega), hσ_43, frσ_43⟩))
        rintro ⟨i_64, σ_65⟩ y46
        try dsimp only at y46 ⊢
        obtain ⟨g45, hσ_65, frσ_65⟩ := y46
        exact wp_some (x_inl ⟨⟨(by (try dsimp only) <;> first | assumption | omega | ((try simp (disch := omega) only [w32_of, w64_of, w8_of]) <;> first | assumption | omega | (split <;> omega) | (refine And.intro ?_ ?_ <;> split <;> omega)) | omega), hσ_65, frσ_65⟩, (by (try dsimp only) <;> first | assumption | omega | ((try simp (disch := omega) only [w32_of, w64_of, w8_of]) <;> first | assumption | omega | (split <;> omega) | (refine And.intro ?_ ?_ <;> split <;> omega)) | omega)⟩)
      · try simp (disch := omega) only [w32_of, w64_of, w8_of, decide_eq_true_eq, decide_eq_false_iff_not, Bool.not_eq_true] at c21
        exact wp_some (x_inr (x_inl ⟨(by (try dsimp only) <;> first | assumption | omega | ((try simp (disch := omega) only [w32_of, w64_of, w8_of]) <;> first | assumption | omega | (split <;> omega) | (refine And.intro ?_ ?_ <;> split <;> omega)) | omega), hσ_29, frσ_29⟩))
    rintro ⟨ring_69, σ_70⟩ y48
    try dsimp only at y48 ⊢
    obtain ⟨g47, hσ_70, frσ_70⟩ := y48
    exact wp_some ⟨hσ_70, frσ_70⟩
theorem s_J_nextOf {σ : SG} {i_0 : Int} (hσ : II σ) (w0 : 0 ≤ i_0 ∧ i_0 ≤ 2047) : wp_ (fJ_nextOf σ i_0) (fun zz_ => (0 ≤ zz_ ∧ zz_ ≤ 2047)) := by
  unfold fJ_nextOf
  have c1 := w32_rng i_0
  refine wp_rdI (by (try dsimp only) <;> first | assumption | omega | ((try simp (disch := omega) only [w32_of, w64_of, w8_of]) <;> first | assumption | omega | (split <;> omega) | (refine And.intro ?_ ?_ <;> split <;> omega)) | omega) (by (try dsimp only) <;> first | assumption | omega | ((try simp (disch := omega) only [w32_of, w64_of, w8_of]) <;> first | assumption | omega | (split <;> omega) | (refine And.intro ?_ ?_ <;> split <;> omega)) | omega) (fun x_1 e_x_1 => ?_)
  have b_x_1 : 0 ≤ x_1 ∧ x_1 ≤ 2047 := by rw [e_x_1]; exact iiE_mark179 hσ _
  try simp (disch := omega) only [w32_of, w64_of, w8_of] at e_x_1
  have c2 : 0 ≤ σ 47104 i_0 ∧ σ 47104 i_0 ≤ 2047 := iiE_mark179 hσ i_0
  refine wp_bdk ?_
  have c3 := w32_rng x_1
  refine wp_rdI (by (try dsimp only) <;> first | assumption | omega | ((try simp (disch := omega) only [w32_of, w64_of, w8_of]) <;> first | assumption | omega | (split <;> omega) | (refine And.intro ?_ ?_ <;> split <;> omega)) | omega) (by (try dsimp only) <;> first | assumption | omega | ((try simp (disch := omega) only [w32_of, w64_of, w8_of]) <;> first | assumption | omega | (split <;> omega) | (refine And.intro ?_ ?_ <;> split <;> omega)) | omega) (fun x_3 e_x_3 => ?_)
  have b_x_3 : 0 ≤ x_3 ∧ x_3 ≤ 2048 := by rw [e_x_3]; exact ii_kJ_ringEnd hσ _
  try simp (disch := omega) only [w32_of, w64_of, w8_of] at e_x_3
  have c4 := ii_kJ_ringEnd hσ x_1
  have c6 := w32_rng (i_0 + 1)
  have c7 := w32_rng x_3
  refine wp_if (fun c5 => ?_) (fun c5 => ?_)
  · try simp (disch := omega) only [w32_of, w64_of, w8_of, decide_eq_true_eq, decide_eq_false_iff_not, Bool.not_eq_true] at c5
    refine wp_somek ?_
    try dsimp only
    exact wp_some (by (try dsimp only) <;> first | assumption | omega | ((try simp (disch := omega) only [w32_of, w64_of, w8_of]) <;> first | assumption | omega | (split <;> omega) | (refine And.intro ?_ ?_ <;> split <;> omega)) | omega)
  · try simp (disch := omega) only [w32_of, w64_of, w8_of, decide_eq_true_eq, decide_eq_false_iff_not, Bool.not_eq_true] at c5
    refine wp_rdI (by (try dsimp only) <;> first | assumption | omega | ((try simp (disch := omega) only [w32_of, w64_of, w8_of]) <;> first | assumption | omega | (split <;> omega) | (refine And.intro ?_ ?_ <;> split <;> omega)) | omega) (by (try dsimp only) <;> first | assumption | omega | ((try simp (disch := omega) only [w32_of, w64_of, w8_of]) <;> first | assumption | omega | (split <;> omega) | (refine And.intro ?_ ?_ <;> split <;> omega)) | omega) (fun x_7 e_x_7 => ?_)
    have b_x_7 : 0 ≤ x_7 ∧ x_7 ≤ 2047 := by rw [e_x_7]; exact ii_kJ_ringBegin hσ _
    try simp (disch := omega) only [w32_of, w64_of, w8_of] at e_x_7
    have c8 := ii_kJ_ringBegin hσ x_1
    refine wp_somek ?_
    try dsimp only
    exact wp_some (by (try dsimp only) <;> first | assumption | omega | ((try simp (disch := omega) only [w32_of, w64_of, w8_of]) <;> first | assumption | omega | (split <;> omega) | (refine And.intro ?_ ?_ <;> split <;> omega)) | omega)
theorem s_J_leadsOnTo {σ : SG} {i_0 : Int} {j_0 : Int} (hσ : II σ) (w0 : 0 ≤ i_0 ∧ i_0 ≤ 2047) (w1 : 0 ≤ j_0 ∧ j_0 ≤ 2047) : wp_ (fJ_leadsOnTo σ i_0 j_0) (fun zz_ => True) := by
  unfold fJ_leadsOnTo
  refine wp_bd (P := fun rr_ => True) ?_ ?_
  · refine wp_bd (s_J_nextOf (σ := σ) (i_0 := i_0) hσ (by (try dsimp only) <;> first | assumption | omega | ((try simp (disch := omega) only [w32_of, w64_of, w8_of]) <;> first | assumption | omega | (split <;> omega) | (refine And.intro ?_ ?_ <;> split <;> omega)) | omega)) ?_
    rintro x_2 - g1
    try simp (disch := omega) only [w32_of, w64_of, w8_of] at g1
    have c3 := w32_rng x_2
    have c4 := w32_rng j_0
    refine wp_if (fun c2 => ?_) (fun c2 => ?_)
    · try simp (disch := omega) only [w32_of, w64_of, w8_of, decide_eq_true_eq, decide_eq_false_iff_not, Bool.not_eq_true] at c2
      have c5 := iiE_placeX (s := 179) hσ (by decide) 0
      have c6 := iiE_placeY (s := 179) hσ (by decide) 0
      have c7 : ((gsz 179 : Nat) : Int) = 2048 := by decide
      refine wp_bd (s_E_ends (σ := σ) (this_0 := 179) (i_0 := i_0) (x_0 := (σ (kE_placeX 179) 0)) (y_0 := (σ (kE_placeY 179) 0)) hσ (by decide) (by (try dsimp only) <;> first | assumption | omega | ((try simp (disch := omega) only [w32_of, w64_of, w8_of]) <;> first | assumption | omega | (split <;> omega) | (refine And.intro ?_ ?_ <;> split <;> omega)) | omega)) ?_
      rintro x_5 - -
      refine wp_if (fun c9 => ?_) (fun c9 => ?_)
      · try simp (disch := omega) only [w32_of, w64_of, w8_of, decide_eq_true_eq, decide_eq_false_iff_not, Bool.not_eq_true] at c9
        have c10 : ((gsz 179 : Nat) : Int) = 2048 := by decide
        refine wp_bd (s_E_begins (σ := σ) (this_0 := 179) (i_0 := j_0) (x_0 := (σ (kE_placeX 179) 0)) (y_0 := (σ (kE_placeY 179) 0)) hσ (by decide) (by (try dsimp only) <;> first | assumption | omega | ((try simp (disch := omega) only [w32_of, w64_of, w8_of]) <;> first | assumption | omega | (split <;> omega) | (refine And.intro ?_ ?_ <;> split <;> omega)) | omega)) ?_
        rintro x_8 - -
        refine wp_if (fun c12 => ?_) (fun c12 => ?_)
        · try simp (disch := omega) only [w32_of, w64_of, w8_of, decide_eq_true_eq, decide_eq_false_iff_not, Bool.not_eq_true] at c12
          exact wp_some trivial
        · try simp (disch := omega) only [w32_of, w64_of, w8_of, decide_eq_true_eq, decide_eq_false_iff_not, Bool.not_eq_true] at c12
          exact wp_some trivial
      · try simp (disch := omega) only [w32_of, w64_of, w8_of, decide_eq_true_eq, decide_eq_false_iff_not, Bool.not_eq_true] at c9
        exact wp_some trivial
    · try simp (disch := omega) only [w32_of, w64_of, w8_of, decide_eq_true_eq, decide_eq_false_iff_not, Bool.not_eq_true] at c2
      exact wp_some trivial
  rintro x_14 _ -
  exact wp_some trivial
theorem s_J_isLeft {σ : SG} {i_0 : Int} {on_0 : Int} {x_0 : Int} {y_0 : Int} (hσ : II σ) (w0 : 0 ≤ i_0 ∧ i_0 ≤ 2047) (w1 : 0 ≤ on_0 ∧ on_0 ≤ 2047) : wp_ (fJ_isLeft σ i_0 on_0 x_0 y_0) (fun zz_ => True) := by
  unfold fJ_isLeft
  have c1 := w32_rng on_0
  refine wp_rdI (by (try dsimp only) <;> first | assumption | omega | ((try simp (disch := omega) only [w32_of, w64_of, w8_of]) <;> first | assumption | omega | (split <;> omega) | (refine And.intro ?_ ?_ <;> split <;> omega)) | omega) (by (try dsimp only) <;> first | assumption | omega | ((try simp (disch := omega) only [w32_of, w64_of, w8_of]) <;> first | assumption | omega | (split <;> omega) | (refine And.intro ?_ ?_ <;> split <;> omega)) | omega) (fun x_1 e_x_1 => ?_)
  have b_x_1 : (-1000000000) ≤ x_1 ∧ x_1 ≤ 1000000000 := by rw [e_x_1]; exact iiE_bx (s := 179) hσ (by decide) _
  try simp (disch := omega) only [w32_of, w64_of, w8_of] at e_x_1
  have c2 : (-1000000000) ≤ σ 46592 on_0 ∧ σ 46592 on_0 ≤ 1000000000 := iiE_bx (s := 179) hσ (by decide) on_0
  refine wp_rdI (by (try dsimp only) <;> first | assumption | omega | ((try simp (disch := omega) only [w32_of, w64_of, w8_of]) <;> first | assumption | omega | (split <;> omega) | (refine And.intro ?_ ?_ <;> split <;> omega)) | omega) (by (try dsimp only) <;> first | assumption | omega | ((try simp (disch := omega) only [w32_of, w64_of, w8_of]) <;> first | assumption | omega | (split <;> omega) | (refine And.intro ?_ ?_ <;> split <;> omega)) | omega) (fun x_3 e_x_3 => ?_)
  have b_x_3 : (-1000000000) ≤ x_3 ∧ x_3 ≤ 1000000000 := by rw [e_x_3]; exact iiE_by (s := 179) hσ (by decide) _
  try simp (disch := omega) only [w32_of, w64_of, w8_of] at e_x_3
  have c3 : (-1000000000) ≤ σ 46848 on_0 ∧ σ 46848 on_0 ≤ 1000000000 := iiE_by (s := 179) hσ (by decide) on_0
  have c4 := w32_rng i_0
  refine wp_rdI (by (try dsimp only) <;> first | assumption | omega | ((try simp (disch := omega) only [w32_of, w64_of, w8_of]) <;> first | assumption | omega | (split <;> omega) | (refine And.intro ?_ ?_ <;> split <;> omega)) | omega) (by (try dsimp only) <;> first | assumption | omega | ((try simp (disch := omega) only [w32_of, w64_of, w8_of]) <;> first | assumption | omega | (split <;> omega) | (refine And.intro ?_ ?_ <;> split <;> omega)) | omega) (fun x_5 e_x_5 => ?_)
  have b_x_5 : (-1000000000) ≤ x_5 ∧ x_5 ≤ 1000000000 := by rw [e_x_5]; exact iiE_ax (s := 179) hσ (by decide) _
  try simp (disch := omega) only [w32_of, w64_of, w8_of] at e_x_5
  have c5 : (-1000000000) ≤ σ 46080 i_0 ∧ σ 46080 i_0 ≤ 1000000000 := iiE_ax (s := 179) hσ (by decide) i_0
  refine wp_rdI (by (try dsimp only) <;> first | assumption | omega | ((try simp (disch := omega) only [w32_of, w64_of, w8_of]) <;> first | assumption | omega | (split <;> omega) | (refine And.intro ?_ ?_ <;> split <;> omega)) | omega) (by (try dsimp only) <;> first | assumption | omega | ((try simp (disch := omega) only [w32_of, w64_of, w8_of]) <;> first | assumption | omega | (split <;> omega) | (refine And.intro ?_ ?_ <;> split <;> omega)) | omega) (fun x_7 e_x_7 => ?_)
  have b_x_7 : (-1000000000) ≤ x_7 ∧ x_7 ≤ 1000000000 := by rw [e_x_7]; exact iiE_ay (s := 179) hσ (by decide) _
  try simp (disch := omega) only [w32_of, w64_of, w8_of] at e_x_7
  have c6 : (-1000000000) ≤ σ 46336 i_0 ∧ σ 46336 i_0 ≤ 1000000000 := iiE_ay (s := 179) hσ (by decide) i_0
  have c7 := iiE_placeX (s := 179) hσ (by decide) 0
  have c8 := w32_rng (σ (kE_placeX 179) 0)
  have c9 := iiE_placeY (s := 179) hσ (by decide) 0
  have c10 := w32_rng (σ (kE_placeY 179) 0)
  have c11 := w32_rng x_1
  have c12 := w32_rng x_3
  have c13 := w32_rng x_0
  have c14 := w32_rng y_0
  have c15 := p_Q_turnOf (ax_0 := (w32 (σ (kE_placeX 179) 0))) (ay_0 := (w32 (σ (kE_placeY 179) 0))) (bx_0 := (w32 x_1)) (by_0 := (w32 x_3)) (cx_0 := (w32 x_0)) (cy_0 := (w32 y_0))
  refine wp_lt (fun x_9 e_x_9 => ?_)
  try simp (disch := omega) only [w32_of, w64_of, w8_of] at e_x_9
  have c16 := w32_rng x_5
  have c17 := w32_rng x_7
  have c18 := p_Q_turnOf (ax_0 := (w32 (σ (kE_placeX 179) 0))) (ay_0 := (w32 (σ (kE_placeY 179) 0))) (bx_0 := (w32 x_5)) (by_0 := (w32 x_7)) (cx_0 := (w32 x_0)) (cy_0 := (w32 y_0))
  refine wp_lt (fun x_10 e_x_10 => ?_)
  try simp (disch := omega) only [w32_of, w64_of, w8_of] at e_x_10
  have c19 := p_Q_turnOf (ax_0 := (w32 (σ (kE_placeX 179) 0))) (ay_0 := (w32 (σ (kE_placeY 179) 0))) (bx_0 := (w32 x_1)) (by_0 := (w32 x_3)) (cx_0 := (w32 x_5)) (cy_0 := (w32 x_7))
  refine wp_lt (fun x_11 e_x_11 => ?_)
  try simp (disch := omega) only [w32_of, w64_of, w8_of] at e_x_11
  have c21 := w32_rng x_11
  refine wp_if (fun c20 => ?_) (fun c20 => ?_)
  · try simp (disch := omega) only [w32_of, w64_of, w8_of, decide_eq_true_eq, decide_eq_false_iff_not, Bool.not_eq_true] at c20
    exact wp_some trivial
  · try simp (disch := omega) only [w32_of, w64_of, w8_of, decide_eq_true_eq, decide_eq_false_iff_not, Bool.not_eq_true] at c20
    refine wp_if (fun c22 => ?_) (fun c22 => ?_)
    · try simp (disch := omega) only [w32_of, w64_of, w8_of, decide_eq_true_eq, decide_eq_false_iff_not, Bool.not_eq_true] at c22
      exact wp_some trivial
    · try simp (disch := omega) only [w32_of, w64_of, w8_of, decide_eq_true_eq, decide_eq_false_iff_not, Bool.not_eq_true] at c22
      refine wp_lt (fun x_21 e_x_21 => ?_)
      try simp (disch := omega) only [w32_of, w64_of, w8_of] at e_x_21
      exact wp_some trivial
theorem s_J_ringsCrossBehind {σ : SG} {i_0 : Int} {j_0 : Int} (hσ : II σ) (w0 : 0 ≤ i_0 ∧ i_0 ≤ 2047) (w1 : 0 ≤ j_0 ∧ j_0 ≤ 2047) : wp_ (fJ_ringsCrossBehind σ i_0 j_0) (fun zz_ => True) := by
  unfold fJ_ringsCrossBehind
  have c1 := iiE_placeX (s := 179) hσ (by decide) 0
  have c2 := iiE_placeY (s := 179) hσ (by decide) 0
  have c3 : ((gsz 179 : Nat) : Int) = 2048 := by decide
  refine wp_bd (s_E_begins (σ := σ) (this_0 := 179) (i_0 := i_0) (x_0 := (σ (kE_placeX 179) 0)) (y_0 := (σ (kE_placeY 179) 0)) hσ (by decide) (by (try dsimp only) <;> first | assumption | omega | ((try simp (disch := omega) only [w32_of, w64_of, w8_of]) <;> first | assumption | omega | (split <;> omega) | (refine And.intro ?_ ?_ <;> split <;> omega)) | omega)) ?_
  rintro x_11 - -
  refine wp_if (fun c5 => ?_) (fun c5 => ?_)
  · try simp (disch := omega) only [w32_of, w64_of, w8_of, decide_eq_true_eq, decide_eq_false_iff_not, Bool.not_eq_true] at c5
    exact wp_some trivial
  · try simp (disch := omega) only [w32_of, w64_of, w8_of, decide_eq_true_eq, decide_eq_false_iff_not, Bool.not_eq_true] at c5
    have c6 : ((gsz 179 : Nat) : Int) = 2048 := by decide
    refine wp_bd (s_E_begins (σ := σ) (this_0 := 179) (i_0 := j_0) (x_0 := (σ (kE_placeX 179) 0)) (y_0 := (σ (kE_placeY 179) 0)) hσ (by decide) (by (try dsimp only) <;> first | assumption | omega | ((try simp (disch := omega) only [w32_of, w64_of, w8_of]) <;> first | assumption | omega | (split <;> omega) | (refine And.intro ?_ ?_ <;> split <;> omega)) | omega)) ?_
    rintro x_14 - -
    refine wp_if (fun c8 => ?_) (fun c8 => ?_)
    · try simp (disch := omega) only [w32_of, w64_of, w8_of, decide_eq_true_eq, decide_eq_false_iff_not, Bool.not_eq_true] at c8
      exact wp_some trivial
    · try simp (disch := omega) only [w32_of, w64_of, w8_of, decide_eq_true_eq, decide_eq_false_iff_not, Bool.not_eq_true] at c8
      refine wp_bd (P := fun rr_ => (0 ≤ rr_ ∧ rr_ ≤ 2047)) ?_ ?_
      · have c9 : ((gsz 179 : Nat) : Int) = 2048 := by decide
        refine wp_bd (s_E_ends (σ := σ) (this_0 := 179) (i_0 := i_0) (x_0 := (σ (kE_placeX 179) 0)) (y_0 := (σ (kE_placeY 179) 0)) hσ (by decide) (by (try dsimp only) <;> first | assumption | omega | ((try simp (disch := omega) only [w32_of, w64_of, w8_of]) <;> first | assumption | omega | (split <;> omega) | (refine And.intro ?_ ?_ <;> split <;> omega)) | omega)) ?_
        rintro x_17 - -
        refine wp_if (fun c11 => ?_) (fun c11 => ?_)
        · try simp (disch := omega) only [w32_of, w64_of, w8_of, decide_eq_true_eq, decide_eq_false_iff_not, Bool.not_eq_true] at c11
          refine wp_bd (s_J_nextOf (σ := σ) (i_0 := i_0) hσ (by (try dsimp only) <;> first | assumption | omega | ((try simp (disch := omega) only [w32_of, w64_of, w8_of]) <;> first | assumption | omega | (split <;> omega) | (refine And.intro ?_ ?_ <;> split <;> omega)) | omega)) ?_
          rintro x_20 - g12
          try simp (disch := omega) only [w32_of, w64_of, w8_of] at g12
          exact wp_some (by (try dsimp only) <;> first | assumption | omega | ((try simp (disch := omega) only [w32_of, w64_of, w8_of]) <;> first | assumption | omega | (split <;> omega) | (refine And.intro ?_ ?_ <;> split <;> omega)) | omega)
        · try simp (disch := omega) only [w32_of, w64_of, w8_of, decide_eq_true_eq, decide_eq_false_iff_not, Bool.not_eq_true] at c11
          exact wp_some (by (try dsimp only) <;> first | assumption | omega | ((try simp (disch := omega) only [w32_of, w64_of, w8_of]) <;> first | assumption | omega | (split <;> omega) | (refine And.intro ?_ ?_ <;> split <;> omega)) | omega)
      rintro x_23 _ g13
      refine wp_bd (P := fun rr_ => (0 ≤ rr_ ∧ rr_ ≤ 2047)) ?_ ?_
      · have c14 : ((gsz 179 : Nat) : Int) = 2048 := by decide
        refine wp_bd (s_E_ends (σ := σ) (this_0 := 179) (i_0 := j_0) (x_0 := (σ (kE_placeX 179) 0)) (y_0 := (σ (kE_placeY 179) 0)) hσ (by decide) (by (try dsimp only) <;> first | assumption | omega | ((try simp (disch := omega) only [w32_of, w64_of, w8_of]) <;> first | assumption | omega | (split <;> omega) | (refine And.intro ?_ ?_ <;> split <;> omega)) | omega)) ?_
        rintro x_25 - -
        refine wp_if (fun c16 => ?_) (fun c16 => ?_)
        · try simp (disch := omega) only [w32_of, w64_of, w8_of, decide_eq_true_eq, decide_eq_false_iff_not, Bool.not_eq_true] at c16
          refine wp_bd (s_J_nextOf (σ := σ) (i_0 := j_0) hσ (by (try dsimp only) <;> first | assumption | omega | ((try simp (disch := omega) only [w32_of, w64_of, w8_of]) <;> first | assumption | omega | (split <;> omega) | (refine And.intro ?_ ?_ <;> split <;> omega)) | omega)) ?_
          rintro x_28 - g17
          try simp (disch := omega) only [w32_of, w64_of, w8_of] at g17
          exact wp_some (by (try dsimp only) <;> first | assumption | omega | ((try simp (disch := omega) only [w32_of, w64_of, w8_of]) <;> first | assumption | omega | (split <;> omega) | (refine And.intro ?_ ?_ <;> split <;> omega)) | omega)
        · try simp (disch := omega) only [w32_of, w64_of, w8_of, decide_eq_true_eq, decide_eq_false_iff_not, Bool.not_eq_true] at c16
          exact wp_some (by (try dsimp only) <;> first | assumption | omega | ((try simp (disch := omega) only [w32_of, w64_of, w8_of]) <;> first | assumption | omega | (split <;> omega) | (refine And.intro ?_ ?_ <;> split <;> omega)) | omega)
      rintro x_31 _ g18
      refine wp_bd (P := fun rr_ => True) ?_ ?_
      · have c19 := w32_rng x_31
        refine wp_rdI (by (try dsimp only) <;> first | assumption | omega | ((try simp (disch := omega) only [w32_of, w64_of, w8_of]) <;> first | assumption | omega | (split <;> omega) | (refine And.intro ?_ ?_ <;> split <;> omega)) | omega) (by (try dsimp only) <;> first | assumption | omega | ((try simp (disch := omega) only [w32_of, w64_of, w8_of]) <;> first | assumption | omega | (split <;> omega) | (refine And.intro ?_ ?_ <;> split <;> omega)) | omega) (fun x_32 e_x_32 => ?_)
        have b_x_32 : (-1000000000) ≤ x_32 ∧ x_32 ≤ 1000000000 := by rw [e_x_32]; exact iiE_bx (s := 179) hσ (by decide) _
        try simp (disch := omega) only [w32_of, w64_of, w8_of] at e_x_32
        have c20 : (-1000000000) ≤ σ 46592 x_31 ∧ σ 46592 x_31 ≤ 1000000000 := iiE_bx (s := 179) hσ (by decide) x_31
        refine wp_rdI (by (try dsimp only) <;> first | assumption | omega | ((try simp (disch := omega) only [w32_of, w64_of, w8_of]) <;> first | assumption | omega | (split <;> omega) | (refine And.intro ?_ ?_ <;> split <;> omega)) | omega) (by (try dsimp only) <;> first | assumption | omega | ((try simp (disch := omega) only [w32_of, w64_of, w8_of]) <;> first | assumption | omega | (split <;> omega) | (refine And.intro ?_ ?_ <;> split <;> omega)) | omega) (fun x_34 e_x_34 => ?_)
        have b_x_34 : (-1000000000) ≤ x_34 ∧ x_34 ≤ 1000000000 := by rw [e_x_34]; exact iiE_by (s := 179) hσ (by decide) _
        try simp (disch := omega) only [w32_of, w64_of, w8_of] at e_x_34
        have c21 : (-1000000000) ≤ σ 46848 x_31 ∧ σ 46848 x_31 ≤ 1000000000 := iiE_by (s := 179) hσ (by decide) x_31
        refine wp_bd (s_J_isLeft (σ := σ) (i_0 := i_0) (on_0 := x_23) (x_0 := x_32) (y_0 := x_34) hσ (by (try dsimp only) <;> first | assumption | omega | ((try simp (disch := omega) only [w32_of, w64_of, w8_of]) <;> first | assumption | omega | (split <;> omega) | (refine And.intro ?_ ?_ <;> split <;> omega)) | omega) (by (try dsimp only) <;> first | assumption | omega | ((try simp (disch := omega) only [w32_of, w64_of, w8_of]) <;> first | assumption | omega | (split <;> omega) | (refine And.intro ?_ ?_ <;> split <;> omega)) | omega)) ?_
        rintro x_37 - -
        have c23 := w32_rng j_0
        refine wp_rdI (by (try dsimp only) <;> first | assumption | omega | ((try simp (disch := omega) only [w32_of, w64_of, w8_of]) <;> first | assumption | omega | (split <;> omega) | (refine And.intro ?_ ?_ <;> split <;> omega)) | omega) (by (try dsimp only) <;> first | assumption | omega | ((try simp (disch := omega) only [w32_of, w64_of, w8_of]) <;> first | assumption | omega | (split <;> omega) | (refine And.intro ?_ ?_ <;> split <;> omega)) | omega) (fun x_38 e_x_38 => ?_)
        have b_x_38 : (-1000000000) ≤ x_38 ∧ x_38 ≤ 1000000000 := by rw [e_x_38]; exact iiE_ax (s := 179) hσ (by decide) _
        try simp (disch := omega) only [w32_of, w64_of, w8_of] at e_x_38
        have c24 : (-1000000000) ≤ σ 46080 j_0 ∧ σ 46080 j_0 ≤ 1000000000 := iiE_ax (s := 179) hσ (by decide) j_0
        refine wp_rdI (by (try dsimp only) <;> first | assumption | omega | ((try simp (disch := omega) only [w32_of, w64_of, w8_of]) <;> first | assumption | omega | (split <;> omega) | (refine And.intro ?_ ?_ <;> split <;> omega)) | omega) (by (try dsimp only) <;> first | assumption | omega | ((try simp (disch := omega) only [w32_of, w64_of, w8_of]) <;> first | assumption | omega | (split <;> omega) | (refine And.intro ?_ ?_ <;> split <;> omega)) | omega) (fun x_40 e_x_40 => ?_)
        have b_x_40 : (-1000000000) ≤ x_40 ∧ x_40 ≤ 1000000000 := by rw [e_x_40]; exact iiE_ay (s := 179) hσ (by decide) _
        try simp (disch := omega) only [w32_of, w64_of, w8_of] at e_x_40
        have c25 : (-1000000000) ≤ σ 46336 j_0 ∧ σ 46336 j_0 ≤ 1000000000 := iiE_ay (s := 179) hσ (by decide) j_0
        refine wp_bd (s_J_isLeft (σ := σ) (i_0 := i_0) (on_0 := x_23) (x_0 := x_38) (y_0 := x_40) hσ (by (try dsimp only) <;> first | assumption | omega | ((try simp (disch := omega) only [w32_of, w64_of, w8_of]) <;> first | assumption | omega | (split <;> omega) | (refine And.intro ?_ ?_ <;> split <;> omega)) | omega) (by (try dsimp only) <;> first | assumption | omega | ((try simp (disch := omega) only [w32_of, w64_of, w8_of]) <;> first | assumption | omega | (split <;> omega) | (refine And.intro ?_ ?_ <;> split <;> omega)) | omega)) ?_
        rintro x_43 - -
        refine wp_if (fun c27 => ?_) (fun c27 => ?_)
        · try simp (disch := omega) only [w32_of, w64_of, w8_of, decide_eq_true_eq, decide_eq_false_iff_not, Bool.not_eq_true] at c27
          exact wp_some trivial
        · try simp (disch := omega) only [w32_of, w64_of, w8_of, decide_eq_true_eq, decide_eq_false_iff_not, Bool.not_eq_true] at c27
          exact wp_some trivial
      rintro x_47 _ -
      exact wp_some trivial
theorem s_J_pairFault {σ : SG} {i_0 : Int} {j_0 : Int} (hσ : II σ) (w0 : 0 ≤ i_0 ∧ i_0 ≤ 2047) (w1 : 0 ≤ j_0 ∧ j_0 ≤ 2047) : wp_ (fJ_pairFault σ i_0 j_0) (fun zz_ => II zz_.2 ∧ FC [(kE_placeX 179), (kE_placeY 179)] [] σ zz_.2 ∧ (0 ≤ zz_.1 ∧ zz_.1 ≤ 5)) := by
  unfold fJ_pairFault
  have c1 : ((gsz 179 : Nat) : Int) = 2048 := by decide
  have c2 : ((gsz 179 : Nat) : Int) = 2048 := by decide
  refine wp_bd (s_E_meet (σ := σ) (this_0 := 179) (i_0 := i_0) (j_0 := j_0) hσ (by decide) (by (try dsimp only) <;> first | assumption | omega | ((try simp (disch := omega) only [w32_of, w64_of, w8_of]) <;> first | assumption | omega | (split <;> omega) | (refine And.intro ?_ ?_ <;> split <;> omega)) | omega) (by (try dsimp only) <;> first | assumption | omega | ((try simp (disch := omega) only [w32_of, w64_of, w8_of]) <;> first | assumption | omega | (split <;> omega) | (refine And.intro ?_ ?_ <;> split <;> omega)) | omega)) ?_
  rintro ⟨x_3, σ_2⟩ - y5
  try dsimp only at y5 ⊢
  obtain ⟨hσ_2, flσ_2, g3, g4⟩ := y5
  have frσ_2 : FC [(kE_placeX 179), (kE_placeY 179)] [] σ σ_2 := FC_le flσ_2 (by first | decide | (rcases hE with rfl | rfl | rfl <;> decide)) (by simp)
  try simp (disch := omega) only [w32_of, w64_of, w8_of] at g3
  try simp (disch := omega) only [w32_of, w64_of, w8_of] at g4
  have c7 := w32_rng x_3
  refine wp_if (fun c6 => ?_) (fun c6 => ?_)
  · try simp (disch := omega) only [w32_of, w64_of, w8_of, decide_eq_true_eq, decide_eq_false_iff_not, Bool.not_eq_true] at c6
    exact wp_some ⟨hσ_2, frσ_2, (by (try dsimp only) <;> first | assumption | omega | ((try simp (disch := omega) only [w32_of, w64_of, w8_of]) <;> first | assumption | omega | (split <;> omega) | (refine And.intro ?_ ?_ <;> split <;> omega)) | omega)⟩
  · try simp (disch := omega) only [w32_of, w64_of, w8_of, decide_eq_true_eq, decide_eq_false_iff_not, Bool.not_eq_true] at c6
    refine wp_if (fun c8 => ?_) (fun c8 => ?_)
    · try simp (disch := omega) only [w32_of, w64_of, w8_of, decide_eq_true_eq, decide_eq_false_iff_not, Bool.not_eq_true] at c8
      exact wp_some ⟨hσ_2, frσ_2, (by (try dsimp only) <;> first | assumption | omega | ((try simp (disch := omega) only [w32_of, w64_of, w8_of]) <;> first | assumption | omega | (split <;> omega) | (refine And.intro ?_ ?_ <;> split <;> omega)) | omega)⟩
    · try simp (disch := omega) only [w32_of, w64_of, w8_of, decide_eq_true_eq, decide_eq_false_iff_not, Bool.not_eq_true] at c8
      refine wp_if (fun c9 => ?_) (fun c9 => ?_)
      · try simp (disch := omega) only [w32_of, w64_of, w8_of, decide_eq_true_eq, decide_eq_false_iff_not, Bool.not_eq_true] at c9
        exact wp_some ⟨hσ_2, frσ_2, (by (try dsimp only) <;> first | assumption | omega | ((try simp (disch := omega) only [w32_of, w64_of, w8_of]) <;> first | assumption | omega | (split <;> omega) | (refine And.intro ?_ ?_ <;> split <;> omega)) | omega)⟩
      · try simp (disch := omega) only [w32_of, w64_of, w8_of, decide_eq_true_eq, decide_eq_false_iff_not, Bool.not_eq_true] at c9
        have c10 := w32_rng i_0
        refine wp_rdI (by (try dsimp only) <;> first | assumption | omega | ((try simp (disch := omega) only [w32_of, w64_of, w8_of]) <;> first | assumption | omega | (split <;> omega) | (refine And.intro ?_ ?_ <;> split <;> omega)) | omega) (by (try dsimp only) <;> first | assumption | omega | ((try simp (disch := omega) only [w32_of, w64_of, w8_of]) <;> first | assumption | omega | (split <;> omega) | (refine And.intro ?_ ?_ <;> split <;> omega)) | omega) (fun x_7 e_x_7 => ?_)
        have b_x_7 : 0 ≤ x_7 ∧ x_7 ≤ 2047 := by rw [e_x_7]; exact iiE_mark179 hσ_2 _
        rw [FC_at frσ_2 (c := 47104) (by first | decide | (rcases hE with rfl | rfl | rfl <;> decide))] at e_x_7
        try simp (disch := omega) only [w32_of, w64_of, w8_of] at e_x_7
        have c11 : 0 ≤ σ_2 47104 i_0 ∧ σ_2 47104 i_0 ≤ 2047 := iiE_mark179 hσ_2 i_0
        have c12 := FC_at flσ_2 (c := 47104) (by first | decide | (rcases hE with rfl | rfl | rfl <;> decide)) i_0
        have c13 : 0 ≤ σ 47104 i_0 ∧ σ 47104 i_0 ≤ 2047 := iiE_mark179 hσ i_0
        have c14 := w32_rng j_0
        refine wp_rdI (by (try dsimp only) <;> first | assumption | omega | ((try simp (disch := omega) only [w32_of, w64_of, w8_of]) <;> first | assumption | omega | (split <;> omega) | (refine And.intro ?_ ?_ <;> split <;> omega)) | omega) (by (try dsimp only) <;> first | assumption | omega | ((try simp (disch := omega) only [w32_of, w64_of, w8_of]) <;> first | assumption | omega | (split <;> omega) | (refine And.intro ?_ ?_ <;> split <;> omega)) | omega) (fun x_9 e_x_9 => ?_)
        have b_x_9 : 0 ≤ x_9 ∧ x_9 ≤ 2047 := by rw [e_x_9]; exact iiE_mark179 hσ_2 _
        rw [FC_at frσ_2 (c := 47104) (by first | decide | (rcases hE with rfl | rfl | rfl <;> decide))] at e_x_9
        try simp (disch := omega) only [w32_of, w64_of, w8_of] at e_x_9
        have c15 : 0 ≤ σ_2 47104 j_0 ∧ σ_2 47104 j_0 ≤ 2047 := iiE_mark179 hσ_2 j_0
        have c16 := FC_at flσ_2 (c := 47104) (by first | decide | (rcases hE with rfl | rfl | rfl <;> decide)) j_0
        have c17 : 0 ≤ σ 47104 j_0 ∧ σ 47104 j_0 ≤ 2047 := iiE_mark179 hσ j_0
        have c19 := w32_rng x_7
        have c20 := w32_rng x_9
        refine wp_if (fun c18 => ?_) (fun c18 => ?_)
        · try simp (disch := omega) only [w32_of, w64_of, w8_of, decide_eq_true_eq, decide_eq_false_iff_not, Bool.not_eq_true] at c18
          refine wp_bd (P := fun rr_ => (0 ≤ rr_ ∧ rr_ ≤ 5)) ?_ ?_
          · refine wp_bd (s_J_ringsCrossBehind (σ := σ_2) (i_0 := i_0) (j_0 := j_0) hσ_2 (by (try dsimp only) <;> first | assumption | omega | ((try simp (disch := omega) only [w32_of, w64_of, w8_of]) <;> first | assumption | omega | (split <;> omega) | (refine And.intro ?_ ?_ <;> split <;> omega)) | omega) (by (try dsimp only) <;> first | assumption | omega | ((try simp (disch := omega) only [w32_of, w64_of, w8_of]) <;> first | assumption | omega | (split <;> omega) | (refine And.intro ?_ ?_ <;> split <;> omega)) | omega)) ?_
            rintro x_13 - -
            refine wp_if (fun c22 => ?_) (fun c22 => ?_)
            · try simp (disch := omega) only [w32_of, w64_of, w8_of, decide_eq_true_eq, decide_eq_false_iff_not, Bool.not_eq_true] at c22
              exact wp_some (by (try dsimp only) <;> first | assumption | omega | ((try simp (disch := omega) only [w32_of, w64_of, w8_of]) <;> first | assumption | omega | (split <;> omega) | (refine And.intro ?_ ?_ <;> split <;> omega)) | omega)
            · try simp (disch := omega) only [w32_of, w64_of, w8_of, decide_eq_true_eq, decide_eq_false_iff_not, Bool.not_eq_true] at c22
              exact wp_some (by (try dsimp only) <;> first | assumption | omega | ((try simp (disch := omega) only [w32_of, w64_of, w8_of]) <;> first | assumption | omega | (split <;> omega) | (refine And.intro ?_ ?_ <;> split <;> omega)) | omega)
          rintro x_17 _ g23
          exact wp_some ⟨hσ_2, frσ_2, (by (try dsimp only) <;> first | assumption | omega | ((try simp (disch := omega) only [w32_of, w64_of, w8_of]) <;> first | assumption | omega | (split <;> omega) | (refine And.intro ?_ ?_ <;> split <;> omega)) | omega)⟩
        · try simp (disch := omega) only [w32_of, w64_of, w8_of, decide_eq_true_eq, decide_eq_false_iff_not, Bool.not_eq_true] at c18
          refine wp_bd (P := fun rr_ => (0 ≤ rr_ ∧ rr_ ≤ 5) ∧ (0 ≤ rr_ ∧ rr_ ≤ 5)) ?_ ?_
          · refine wp_bd (s_J_leadsOnTo (σ := σ_2) (i_0 := i_0) (j_0 := j_0) hσ_2 (by (try dsimp only) <;> first | assumption | omega | ((try simp (disch := omega) only [w32_of, w64_of, w8_of]) <;> first | assumption | omega | (split <;> omega) | (refine And.intro ?_ ?_ <;> split <;> omega)) | omega) (by (try dsimp only) <;> first | assumption | omega | ((try simp (disch := omega) only [w32_of, w64_of, w8_of]) <;> first | assumption | omega | (split <;> omega) | (refine And.intro ?_ ?_ <;> split <;> omega)) | omega)) ?_
            rintro x_33 - -
            refine wp_if (fun c25 => ?_) (fun c25 => ?_)
            · try simp (disch := omega) only [w32_of, w64_of, w8_of, decide_eq_true_eq, decide_eq_false_iff_not, Bool.not_eq_true] at c25
              exact wp_some ⟨(by (try dsimp only) <;> first | assumption | omega | ((try simp (disch := omega) only [w32_of, w64_of, w8_of]) <;> first | assumption | omega | (split <;> omega) | (refine And.intro ?_ ?_ <;> split <;> omega)) | omega), (by (try dsimp only) <;> first | assumption | omega | ((try simp (disch := omega) only [w32_of, w64_of, w8_of]) <;> first | assumption | omega | (split <;> omega) | (refine And.intro ?_ ?_ <;> split <;> omega)) | omega)⟩
            · try simp (disch := omega) only [w32_of, w64_of, w8_of, decide_eq_true_eq, decide_eq_false_iff_not, Bool.not_eq_true] at c25
              refine wp_bd (s_J_leadsOnTo (σ := σ_2) (i_0 := j_0) (j_0 := i_0) hσ_2 (by (try dsimp only) <;> first | assumption | omega | ((try simp (disch := omega) only [w32_of, w64_of, w8_of]) <;> first | assumption | omega | (split <;> omega) | (refine And.intro ?_ ?_ <;> split <;> omega)) | omega) (by (try dsimp only) <;> first | assumption | omega | ((try simp (disch := omega) only [w32_of, w64_of, w8_of]) <;> first | assumption | omega | (split <;> omega) | (refine And.intro ?_ ?_ <;> split <;> omega)) | omega)) ?_
              rintro x_37 - -
              refine wp_if (fun c27 => ?_) (fun c27 => ?_)
              · try simp (disch := omega) only [w32_of, w64_of, w8_of, decide_eq_true_eq, decide_eq_false_iff_not, Bool.not_eq_true] at c27
                exact wp_some ⟨(by (try dsimp only) <;> first | assumption | omega | ((try simp (disch := omega) only [w32_of, w64_of, w8_of]) <;> first | assumption | omega | (split <;> omega) | (refine And.intro ?_ ?_ <;> split <;> omega)) | omega), (by (try dsimp only) <;> first | assumption | omega | ((try simp (disch := omega) only [w32_of, w64_of, w8_of]) <;> first | assumption | omega | (split <;> omega) | (refine And.intro ?_ ?_ <;> split <;> omega)) | omega)⟩
              · try simp (disch := omega) only [w32_of, w64_of, w8_of, decide_eq_true_eq, decide_eq_false_iff_not, Bool.not_eq_true] at c27
                exact wp_some ⟨(by (try dsimp only) <;> first | assumption | omega | ((try simp (disch := omega) only [w32_of, w64_of, w8_of]) <;> first | assumption | omega | (split <;> omega) | (refine And.intro ?_ ?_ <;> split <;> omega)) | omega), (by (try dsimp only) <;> first | assumption | omega | ((try simp (disch := omega) only [w32_of, w64_of, w8_of]) <;> first | assumption | omega | (split <;> omega) | (refine And.intro ?_ ?_ <;> split <;> omega)) | omega)⟩
          rintro x_41 _ ⟨g28, g29⟩
          exact wp_some ⟨hσ_2, frσ_2, (by (try dsimp only) <;> first | assumption | omega | ((try simp (disch := omega) only [w32_of, w64_of, w8_of]) <;> first | assumption | omega | (split <;> omega) | (refine And.intro ?_ ?_ <;> split <;> omega)) | omega)⟩
theorem s_J_tellPair {σ : SG} {fault_0 : Int} {i_0 : Int} {j_0 : Int} (hσ : II σ) (w0 : 0 ≤ i_0 ∧ i_0 ≤ 2047) (w1 : 0 ≤ j_0 ∧ j_0 ≤ 2047) : wp_ (fJ_tellPair σ fault_0 i_0 j_0) (fun zz_ => II zz_.2 ∧ FC [kJ_place] [] σ zz_.2 ∧ (zz_.1 = fault_0)) := by
  unfold fJ_tellPair
  have c1 := w32_rng i_0
  refine wp_rdI (by (try dsimp only) <;> first | assumption | omega | ((try simp (disch := omega) only [w32_of, w64_of, w8_of]) <;> first | assumption | omega | (split <;> omega) | (refine And.intro ?_ ?_ <;> split <;> omega)) | omega) (by (try dsimp only) <;> first | assumption | omega | ((try simp (disch := omega) only [w32_of, w64_of, w8_of]) <;> first | assumption | omega | (split <;> omega) | (refine And.intro ?_ ?_ <;> split <;> omega)) | omega) (fun x_1 e_x_1 => ?_)
  have b_x_1 : 0 ≤ x_1 ∧ x_1 ≤ 2047 := by rw [e_x_1]; exact iiE_mark179 hσ _
  try simp (disch := omega) only [w32_of, w64_of, w8_of] at e_x_1
  have c2 : 0 ≤ σ 47104 i_0 ∧ σ 47104 i_0 ≤ 2047 := iiE_mark179 hσ i_0
  have c3 := w32_rng j_0
  refine wp_rdI (by (try dsimp only) <;> first | assumption | omega | ((try simp (disch := omega) only [w32_of, w64_of, w8_of]) <;> first | assumption | omega | (split <;> omega) | (refine And.intro ?_ ?_ <;> split <;> omega)) | omega) (by (try dsimp only) <;> first | assumption | omega | ((try simp (disch := omega) only [w32_of, w64_of, w8_of]) <;> first | assumption | omega | (split <;> omega) | (refine And.intro ?_ ?_ <;> split <;> omega)) | omega) (fun x_3 e_x_3 => ?_)
  have b_x_3 : 0 ≤ x_3 ∧ x_3 ≤ 2047 := by rw [e_x_3]; exact iiE_mark179 hσ _
  try simp (disch := omega) only [w32_of, w64_of, w8_of] at e_x_3
  have c4 : 0 ≤ σ 47104 j_0 ∧ σ 47104 j_0 ≤ 2047 := iiE_mark179 hσ j_0
  have c5 := w32_rng x_1
  refine wp_rdI (by (try dsimp only) <;> first | assumption | omega | ((try simp (disch := omega) only [w32_of, w64_of, w8_of]) <;> first | assumption | omega | (split <;> omega) | (refine And.intro ?_ ?_ <;> split <;> omega)) | omega) (by (try dsimp only) <;> first | assumption | omega | ((try simp (disch := omega) only [w32_of, w64_of, w8_of]) <;> first | assumption | omega | (split <;> omega) | (refine And.intro ?_ ?_ <;> split <;> omega)) | omega) (fun x_5 e_x_5 => ?_)
  have b_x_5 : 0 ≤ x_5 ∧ x_5 ≤ 2047 := by rw [e_x_5]; exact ii_kJ_ringPart hσ _
  try simp (disch := omega) only [w32_of, w64_of, w8_of] at e_x_5
  have c6 := ii_kJ_ringPart hσ x_1
  refine wp_waI hσ b_kJ_place (by (try dsimp only) <;> first | assumption | omega | ((try simp (disch := omega) only [w32_of, w64_of, w8_of]) <;> first | assumption | omega | (split <;> omega) | (refine And.intro ?_ ?_ <;> split <;> omega)) | omega) (by (try dsimp only) <;> first | assumption | omega | ((try simp (disch := omega) only [w32_of, w64_of, w8_of]) <;> first | assumption | omega | (split <;> omega) | (refine And.intro ?_ ?_ <;> split <;> omega)) | omega) (by (try dsimp only) <;> first | assumption | omega | ((try simp (disch := omega) only [w32_of, w64_of, w8_of]) <;> first | assumption | omega | (split <;> omega) | (refine And.intro ?_ ?_ <;> split <;> omega)) | omega) (fun σ_7 hσ_7 eσ_7 => ?_)
  try simp (disch := omega) only [w32_of, w64_of, w8_of] at eσ_7
  have flσ_7 := FC_sg eσ_7 (by first | decide | (rcases hE with rfl | rfl | rfl <;> decide))
  have frσ_7 : FC [kJ_place] [] σ σ_7 := FC_le flσ_7 (by first | decide | (rcases hE with rfl | rfl | rfl <;> decide)) (by simp)
  refine wp_rdI (by (try dsimp only) <;> first | assumption | omega | ((try simp (disch := omega) only [w32_of, w64_of, w8_of]) <;> first | assumption | omega | (split <;> omega) | (refine And.intro ?_ ?_ <;> split <;> omega)) | omega) (by (try dsimp only) <;> first | assumption | omega | ((try simp (disch := omega) only [w32_of, w64_of, w8_of]) <;> first | assumption | omega | (split <;> omega) | (refine And.intro ?_ ?_ <;> split <;> omega)) | omega) (fun x_9 e_x_9 => ?_)
  have b_x_9 : 0 ≤ x_9 ∧ x_9 ≤ 2047 := by rw [e_x_9]; exact ii_kJ_ringNumber hσ_7 _
  rw [FC_at frσ_7 (c := kJ_ringNumber) (by first | decide | (rcases hE with rfl | rfl | rfl <;> decide))] at e_x_9
  try simp (disch := omega) only [w32_of, w64_of, w8_of] at e_x_9
  have c7 := ii_kJ_ringNumber hσ_7 x_1
  have c8 := FC_at flσ_7 (c := kJ_ringNumber) (by first | decide | (rcases hE with rfl | rfl | rfl <;> decide)) x_1
  have c9 := ii_kJ_ringNumber hσ x_1
  refine wp_waI hσ_7 b_kJ_place (by (try dsimp only) <;> first | assumption | omega | ((try simp (disch := omega) only [w32_of, w64_of, w8_of]) <;> first | assumption | omega | (split <;> omega) | (refine And.intro ?_ ?_ <;> split <;> omega)) | omega) (by (try dsimp only) <;> first | assumption | omega | ((try simp (disch := omega) only [w32_of, w64_of, w8_of]) <;> first | assumption | omega | (split <;> omega) | (refine And.intro ?_ ?_ <;> split <;> omega)) | omega) (by (try dsimp only) <;> first | assumption | omega | ((try simp (disch := omega) only [w32_of, w64_of, w8_of]) <;> first | assumption | omega | (split <;> omega) | (refine And.intro ?_ ?_ <;> split <;> omega)) | omega) (fun σ_11 hσ_11 eσ_11 => ?_)
  try simp (disch := omega) only [w32_of, w64_of, w8_of] at eσ_11
  have flσ_11 := FC_sg eσ_11 (by first | decide | (rcases hE with rfl | rfl | rfl <;> decide))
  have frσ_11 : FC [kJ_place] [] σ σ_11 := FC_tr frσ_7 flσ_11 (by first | decide | (rcases hE with rfl | rfl | rfl <;> decide)) (by first | decide | (rcases hE with rfl | rfl | rfl <;> decide)) (by simp) (by simp)
  refine wp_rdI (by (try dsimp only) <;> first | assumption | omega | ((try simp (disch := omega) only [w32_of, w64_of, w8_of]) <;> first | assumption | omega | (split <;> omega) | (refine And.intro ?_ ?_ <;> split <;> omega)) | omega) (by (try dsimp only) <;> first | assumption | omega | ((try simp (disch := omega) only [w32_of, w64_of, w8_of]) <;> first | assumption | omega | (split <;> omega) | (refine And.intro ?_ ?_ <;> split <;> omega)) | omega) (fun x_13 e_x_13 => ?_)
  have b_x_13 : 0 ≤ x_13 ∧ x_13 ≤ 2047 := by rw [e_x_13]; exact ii_kJ_number hσ_11 _
  rw [FC_at frσ_11 (c := kJ_number) (by first | decide | (rcases hE with rfl | rfl | rfl <;> decide))] at e_x_13
  try simp (disch := omega) only [w32_of, w64_of, w8_of] at e_x_13
  have c10 := ii_kJ_number hσ_11 i_0
  have c11 := FC_at flσ_11 (c := kJ_number) (by first | decide | (rcases hE with rfl | rfl | rfl <;> decide)) i_0
  have c12 := ii_kJ_number hσ_7 i_0
  have c13 := FC_at flσ_7 (c := kJ_number) (by first | decide | (rcases hE with rfl | rfl | rfl <;> decide)) i_0
  have c14 := ii_kJ_number hσ i_0
  refine wp_waI hσ_11 b_kJ_place (by (try dsimp only) <;> first | assumption | omega | ((try simp (disch := omega) only [w32_of, w64_of, w8_of]) <;> first | assumption | omega | (split <;> omega) | (refine And.intro ?_ ?_ <;> split <;> omega)) | omega) (by (try dsimp only) <;> first | assumption | omega | ((try simp (disch := omega) only [w32_of, w64_of, w8_of]) <;> first | assumption | omega | (split <;> omega) | (refine And.intro ?_ ?_ <;> split <;> omega)) | omega) (by (try dsimp only) <;> first | assumption | omega | ((try simp (disch := omega) only [w32_of, w64_of, w8_of]) <;> first | assumption | omega | (split <;> omega) | (refine And.intro ?_ ?_ <;> split <;> omega)) | omega) (fun σ_15 hσ_15 eσ_15 => ?_)
  try simp (disch := omega) only [w32_of, w64_of, w8_of] at eσ_15
  have flσ_15 := FC_sg eσ_15 (by first | decide | (rcases hE with rfl | rfl | rfl <;> decide))
  have frσ_15 : FC [kJ_place] [] σ σ_15 := FC_tr frσ_11 flσ_15 (by first | decide | (rcases hE with rfl | rfl | rfl <;> decide)) (by first | decide | (rcases hE with rfl | rfl | rfl <;> decide)) (by simp) (by simp)
  have c15 := w32_rng x_3
  refine wp_rdI (by (try dsimp only) <;> first | assumption | omega | ((try simp (disch := omega) only [w32_of, w64_of, w8_of]) <;> first | assumption | omega | (split <;> omega) | (refine And.intro ?_ ?_ <;> split <;> omega)) | omega) (by (try dsimp only) <;> first | assumption | omega | ((try simp (disch := omega) only [w32_of, w64_of, w8_of]) <;> first | assumption | omega | (split <;> omega) | (refine And.intro ?_ ?_ <;> split <;> omega)) | omega) (fun x_17 e_x_17 => ?_)
  have b_x_17 : 0 ≤ x_17 ∧ x_17 ≤ 2047 := by rw [e_x_17]; exact ii_kJ_ringPart hσ_15 _
  rw [FC_at frσ_15 (c := kJ_ringPart) (by first | decide | (rcases hE with rfl | rfl | rfl <;> decide))] at e_x_17
  try simp (disch := omega) only [w32_of, w64_of, w8_of] at e_x_17
  have c16 := ii_kJ_ringPart hσ_15 x_3
  have c17 := FC_at flσ_15 (c := kJ_ringPart) (by first | decide | (rcases hE with rfl | rfl | rfl <;> decide)) x_3
  have c18 := ii_kJ_ringPart hσ_11 x_3
  have c19 := FC_at flσ_11 (c := kJ_ringPart) (by first | decide | (rcases hE with rfl | rfl | rfl <;> decide)) x_3
  have c20 := ii_kJ_ringPart hσ_7 x_3
  have c21 := FC_at flσ_7 (c := kJ_ringPart) (by first | decide | (rcases hE with rfl | rfl | rfl <;> decide)) x_3
  have c22 := ii_kJ_ringPart hσ x_3
  refine wp_waI hσ_15 b_kJ_place (by (try dsimp only) <;> first | assumption | omega | ((try simp (disch := omega) only [w32_of, w64_of, w8_of]) <;> first | assumption | omega | (split <;> omega) | (refine And.intro ?_ ?_ <;> split <;> omega)) | omega) (by (try dsimp only) <;> first | assumption | omega | ((try simp (disch := omega) only [w32_of, w64_of, w8_of]) <;> first | assumption | omega | (split <;> omega) | (refine And.intro ?_ ?_ <;> split <;> omega)) | omega) (by (try dsimp only) <;> first | assumption | omega | ((try simp (disch := omega) only [w32_of, w64_of, w8_of]) <;> first | assumption | omega | (split <;> omega) | (refine And.intro ?_ ?_ <;> split <;> omega)) | omega) (fun σ_19 hσ_19 eσ_19 => ?_)
  try simp (disch := omega) only [w32_of, w64_of, w8_of] at eσ_19
  have flσ_19 := FC_sg eσ_19 (by first | decide | (rcases hE with rfl | rfl | rfl <;> decide))
  have frσ_19 : FC [kJ_place] [] σ σ_19 := FC_tr frσ_15 flσ_19 (by first | decide | (rcases hE with rfl | rfl | rfl <;> decide)) (by first | decide | (rcases hE with rfl | rfl | rfl <;> decide)) (by simp) (by simp)
  refine wp_rdI (by (try dsimp only) <;> first | assumption | omega | ((try simp (disch := omega) only [w32_of, w64_of, w8_of]) <;> first | assumption | omega | (split <;> omega) | (refine And.intro ?_ ?_ <;> split <;> omega)) | omega) (by (try dsimp only) <;> first | assumption | omega | ((try simp (disch := omega) only [w32_of, w64_of, w8_of]) <;> first | assumption | omega | (split <;> omega) | (refine And.intro ?_ ?_ <;> split <;> omega)) | omega) (fun x_21 e_x_21 => ?_)
  have b_x_21 : 0 ≤ x_21 ∧ x_21 ≤ 2047 := by rw [e_x_21]; exact ii_kJ_ringNumber hσ_19 _
  rw [FC_at frσ_19 (c := kJ_ringNumber) (by first | decide | (rcases hE with rfl | rfl | rfl <;> decide))] at e_x_21
  try simp (disch := omega) only [w32_of, w64_of, w8_of] at e_x_21
  have c23 := ii_kJ_ringNumber hσ_19 x_3
  have c24 := FC_at flσ_19 (c := kJ_ringNumber) (by first | decide | (rcases hE with rfl | rfl | rfl <;> decide)) x_3
  have c25 := ii_kJ_ringNumber hσ_15 x_3
  have c26 := FC_at flσ_15 (c := kJ_ringNumber) (by first | decide | (rcases hE with rfl | rfl | rfl <;> decide)) x_3
  have c27 := ii_kJ_ringNumber hσ_11 x_3
  have c28 := FC_at flσ_11 (c := kJ_ringNumber) (by first | decide | (rcases hE with rfl | rfl | rfl <;> decide)) x_3
  have c29 := ii_kJ_ringNumber hσ_7 x_3
  have c30 := FC_at flσ_7 (c := kJ_ringNumber) (by first | decide | (rcases hE with rfl | rfl | rfl <;> decide)) x_3
  have c31 := ii_kJ_ringNumber hσ x_3
  refine wp_waI hσ_19 b_kJ_place (by (try dsimp only) <;> first | assumption | omega | ((try simp (disch := omega) only [w32_of, w64_of, w8_of]) <;> first | assumption | omega | (split <;> omega) | (refine And.intro ?_ ?_ <;> split <;> omega)) | omega) (by (try dsimp only) <;> first | assumption | omega | ((try simp (disch := omega) only [w32_of, w64_of, w8_of]) <;> first | assumption | omega | (split <;> omega) | (refine And.intro ?_ ?_ <;> split <;> omega)) | omega) (by (try dsimp only) <;> first | assumption | omega | ((try simp (disch := omega) only [w32_of, w64_of, w8_of]) <;> first | assumption | omega | (split <;> omega) | (refine And.intro ?_ ?_ <;> split <;> omega)) | omega) (fun σ_23 hσ_23 eσ_23 => ?_)
  try simp (disch := omega) only [w32_of, w64_of, w8_of] at eσ_23
  have flσ_23 := FC_sg eσ_23 (by first | decide | (rcases hE with rfl | rfl | rfl <;> decide))
  have frσ_23 : FC [kJ_place] [] σ σ_23 := FC_tr frσ_19 flσ_23 (by first | decide | (rcases hE with rfl | rfl | rfl <;> decide)) (by first | decide | (rcases hE with rfl | rfl | rfl <;> decide)) (by simp) (by simp)
  refine wp_rdI (by (try dsimp only) <;> first | assumption | omega | ((try simp (disch := omega) only [w32_of, w64_of, w8_of]) <;> first | assumption | omega | (split <;> omega) | (refine And.intro ?_ ?_ <;> split <;> omega)) | omega) (by (try dsimp only) <;> first | assumption | omega | ((try simp (disch := omega) only [w32_of, w64_of, w8_of]) <;> first | assumption | omega | (split <;> omega) | (refine And.intro ?_ ?_ <;> split <;> omega)) | omega) (fun x_25 e_x_25 => ?_)
  have b_x_25 : 0 ≤ x_25 ∧ x_25 ≤ 2047 := by rw [e_x_25]; exact ii_kJ_number hσ_23 _
  rw [FC_at frσ_23 (c := kJ_number) (by first | decide | (rcases hE with rfl | rfl | rfl <;> decide))] at e_x_25
  try simp (disch := omega) only [w32_of, w64_of, w8_of] at e_x_25
  have c32 := ii_kJ_number hσ_23 j_0
  have c33 := FC_at flσ_23 (c := kJ_number) (by first | decide | (rcases hE with rfl | rfl | rfl <;> decide)) j_0
  have c34 := ii_kJ_number hσ_19 j_0
  have c35 := FC_at flσ_19 (c := kJ_number) (by first | decide | (rcases hE with rfl | rfl | rfl <;> decide)) j_0
  have c36 := ii_kJ_number hσ_15 j_0
  have c37 := FC_at flσ_15 (c := kJ_number) (by first | decide | (rcases hE with rfl | rfl | rfl <;> decide)) j_0
  have c38 := ii_kJ_number hσ_11 j_0
  have c39 := FC_at flσ_11 (c := kJ_number) (by first | decide | (rcases hE with rfl | rfl | rfl <;> decide)) j_0
  have c40 := ii_kJ_number hσ_7 j_0
  have c41 := FC_at flσ_7 (c := kJ_number) (by first | decide | (rcases hE with rfl | rfl | rfl <;> decide)) j_0
  have c42 := ii_kJ_number hσ j_0
  refine wp_waI hσ_23 b_kJ_place (by (try dsimp only) <;> first | assumption | omega | ((try simp (disch := omega) only [w32_of, w64_of, w8_of]) <;> first | assumption | omega | (split <;> omega) | (refine And.intro ?_ ?_ <;> split <;> omega)) | omega) (by (try dsimp only) <;> first | assumption | omega | ((try simp (disch := omega) only [w32_of, w64_of, w8_of]) <;> first | assumption | omega | (split <;> omega) | (refine And.intro ?_ ?_ <;> split <;> omega)) | omega) (by (try dsimp only) <;> first | assumption | omega | ((try simp (disch := omega) only [w32_of, w64_of, w8_of]) <;> first | assumption | omega | (split <;> omega) | (refine And.intro ?_ ?_ <;> split <;> omega)) | omega) (fun σ_27 hσ_27 eσ_27 => ?_)
  try simp (disch := omega) only [w32_of, w64_of, w8_of] at eσ_27
  have flσ_27 := FC_sg eσ_27 (by first | decide | (rcases hE with rfl | rfl | rfl <;> decide))
  have frσ_27 : FC [kJ_place] [] σ σ_27 := FC_tr frσ_23 flσ_27 (by first | decide | (rcases hE with rfl | rfl | rfl <;> decide)) (by first | decide | (rcases hE with rfl | rfl | rfl <;> decide)) (by simp) (by simp)
  exact wp_some ⟨hσ_27, frσ_27, (by (try dsimp only) <;> first | assumption | omega | ((try simp (disch := omega) only [w32_of, w64_of, w8_of]) <;> first | assumption | omega | (split <;> omega) | (refine And.intro ?_ ?_ <;> split <;> omega)) | omega)⟩
theorem s_J_pairsFault {σ : SG} {part_0 : Int} (hσ : II σ) (w0 : 0 ≤ part_0 ∧ part_0 ≤ 2047) : wp_ (fJ_pairsFault σ part_0) (fun zz_ => II zz_.2 ∧ FC [(kE_placeX 179), (kE_placeY 179), kJ_place] [] σ zz_.2 ∧ (0 ≤ zz_.1 ∧ zz_.1 ≤ 10)) := by
  unfold fJ_pairsFault
  refine wp_bd (s_J_isEmpty (σ := σ) (part_0 := part_0) hσ (by (try dsimp only) <;> first | assumption | omega | ((try simp (disch := omega) only [w32_of, w64_of, w8_of]) <;> first | assumption | omega | (split <;> omega) | (refine And.intro ?_ ?_ <;> split <;> omega)) | omega)) ?_
  rintro x_2 - g1
  have c2 := ii_kJ_partBegin hσ part_0
  have c3 := ii_kJ_partEnd hσ part_0
  try simp (disch := omega) only [w32_of, w64_of, w8_of] at g1
  refine wp_if (fun c4 => ?_) (fun c4 => ?_)
  · try simp (disch := omega) only [w32_of, w64_of, w8_of, decide_eq_true_eq, decide_eq_false_iff_not, Bool.not_eq_true] at c4
    exact wp_some ⟨hσ, (FC_refl _ _ _), (by (try dsimp only) <;> first | assumption | omega | ((try simp (disch := omega) only [w32_of, w64_of, w8_of]) <;> first | assumption | omega | (split <;> omega) | (refine And.intro ?_ ?_ <;> split <;> omega)) | omega)⟩
  · have k6 := g1 (Bool.eq_false_iff.mpr c4)
    try simp (disch := omega) only [w32_of, w64_of, w8_of] at k6
    try simp (disch := omega) only [w32_of, w64_of, w8_of, decide_eq_true_eq, decide_eq_false_iff_not, Bool.not_eq_true] at c4
    have c7 := w32_rng part_0
    refine wp_rdI (by (try dsimp only) <;> first | assumption | omega | ((try simp (disch := omega) only [w32_of, w64_of, w8_of]) <;> first | assumption | omega | (split <;> omega) | (refine And.intro ?_ ?_ <;> split <;> omega)) | omega) (by (try dsimp only) <;> first | assumption | omega | ((try simp (disch := omega) only [w32_of, w64_of, w8_of]) <;> first | assumption | omega | (split <;> omega) | (refine And.intro ?_ ?_ <;> split <;> omega)) | omega) (fun x_4 e_x_4 => ?_)
    have b_x_4 : 0 ≤ x_4 ∧ x_4 ≤ 2048 := by rw [e_x_4]; exact ii_kJ_partEnd hσ _
    try simp (disch := omega) only [w32_of, w64_of, w8_of] at e_x_4
    have c8 := w32_rng (x_4 - 1)
    refine wp_rdI (by (try dsimp only) <;> first | assumption | omega | ((try simp (disch := omega) only [w32_of, w64_of, w8_of]) <;> first | assumption | omega | (split <;> omega) | (refine And.intro ?_ ?_ <;> split <;> omega)) | omega) (by (try dsimp only) <;> first | assumption | omega | ((try simp (disch := omega) only [w32_of, w64_of, w8_of]) <;> first | assumption | omega | (split <;> omega) | (refine And.intro ?_ ?_ <;> split <;> omega)) | omega) (fun x_6 e_x_6 => ?_)
    have b_x_6 : 0 ≤ x_6 ∧ x_6 ≤ 2048 := by rw [e_x_6]; exact ii_kJ_ringEnd hσ _
    try simp (disch := omega) only [w32_of, w64_of, w8_of] at e_x_6
    have c9 := ii_kJ_ringEnd hσ (x_4 - 1)
    refine wp_rdI (by (try dsimp only) <;> first | assumption | omega | ((try simp (disch := omega) only [w32_of, w64_of, w8_of]) <;> first | assumption | omega | (split <;> omega) | (refine And.intro ?_ ?_ <;> split <;> omega)) | omega) (by (try dsimp only) <;> first | assumption | omega | ((try simp (disch := omega) only [w32_of, w64_of, w8_of]) <;> first | assumption | omega | (split <;> omega) | (refine And.intro ?_ ?_ <;> split <;> omega)) | omega) (fun x_8 e_x_8 => ?_)
    have b_x_8 : 0 ≤ x_8 ∧ x_8 ≤ 2048 := by rw [e_x_8]; exact ii_kJ_partBegin hσ _
    try simp (disch := omega) only [w32_of, w64_of, w8_of] at e_x_8
    have c10 := w32_rng x_8
    refine wp_rdI (by (try dsimp only) <;> first | assumption | omega | ((try simp (disch := omega) only [w32_of, w64_of, w8_of]) <;> first | assumption | omega | (split <;> omega) | (refine And.intro ?_ ?_ <;> split <;> omega)) | omega) (by (try dsimp only) <;> first | assumption | omega | ((try simp (disch := omega) only [w32_of, w64_of, w8_of]) <;> first | assumption | omega | (split <;> omega) | (refine And.intro ?_ ?_ <;> split <;> omega)) | omega) (fun x_10 e_x_10 => ?_)
    have b_x_10 : 0 ≤ x_10 ∧ x_10 ≤ 2047 := by rw [e_x_10]; exact ii_kJ_ringBegin hσ _
    try simp (disch := omega) only [w32_of, w64_of, w8_of] at e_x_10
    have c11 := ii_kJ_ringBegin hσ x_8
    refine wp_bx (P := fun rr_ => (0 ≤ rr_.1 ∧ rr_.1 ≤ 2048) ∧ II rr_.2 ∧ FC [(kE_placeX 179), (kE_placeY 179), kJ_place] [] σ rr_.2) ?_ ?_
    · refine wp_whl (fun ss_ => (0 ≤ ss_.1 ∧ ss_.1 ≤ 2048) ∧ II ss_.2 ∧ FC [(kE_placeX 179), (kE_placeY 179), kJ_place] [] σ ss_.2) (fun ss_ => (2049 - ss_.1).toNat) ⟨(by (try dsimp only) <;> first | assumption | omega | ((try simp (disch := omega) only [w32_of, w64_of, w8_of]) <;> first | assumption | omega | (split <;> omega) | (refine And.intro ?_ ?_ <;> split <;> omega)) | omega), hσ, (FC_refl _ _ _)⟩ ?_
      rintro ⟨i_12, σ_13⟩ y13
      try dsimp only at y13 ⊢
      obtain ⟨g12, hσ_13, frσ_13⟩ := y13
      have c15 := w32_rng i_12
      have c16 := w32_rng x_6
      refine wp_if (fun c14 => ?_) (fun c14 => ?_)
      · try simp (disch := omega) only [w32_of, w64_of, w8_of, decide_eq_true_eq, decide_eq_false_iff_not, Bool.not_eq_true] at c14
        refine wp_bx (P := fun rr_ => (1 ≤ rr_.1 ∧ rr_.1 ≤ 2048) ∧ II rr_.2 ∧ FC [(kE_placeX 179), (kE_placeY 179), kJ_place] [] σ rr_.2) ?_ ?_
        · refine wp_whl (fun ss_ => (1 ≤ ss_.1 ∧ ss_.1 ≤ 2048) ∧ II ss_.2 ∧ FC [(kE_placeX 179), (kE_placeY 179), kJ_place] [] σ ss_.2) (fun ss_ => (2049 - ss_.1).toNat) ⟨(by (try dsimp only) <;> first | assumption | omega | ((try simp (disch := omega) only [w32_of, w64_of, w8_of]) <;> first | assumption | omega | (split <;> omega) | (refine And.intro ?_ ?_ <;> split <;> omega)) | omega), hσ_13, frσ_13⟩ ?_
          rintro ⟨j_22, σ_23⟩ y18
          try dsimp only at y18 ⊢
          obtain ⟨g17, hσ_23, frσ_23⟩ := y18
          have c20 := w32_rng j_22
          refine wp_if (fun c19 => ?_) (fun c19 => ?_)
          · try simp (disch := omega) only [w32_of, w64_of, w8_of, decide_eq_true_eq, decide_eq_false_iff_not, Bool.not_eq_true] at c19
            refine wp_bd (P := fun rr_ => (0 ≤ rr_.1 ∧ rr_.1 ≤ 5) ∧ II rr_.2 ∧ FC [(kE_placeX 179), (kE_placeY 179), kJ_place] [] σ rr_.2) ?_ ?_
            · have c21 : ((gsz 179 : Nat) : Int) = 2048 := by decide
              have c22 : ((gsz 179 : Nat) : Int) = 2048 := by decide
              refine wp_bd (s_E_areApart (σ := σ_23) (this_0 := 179) (i_0 := i_12) (j_0 := j_22) hσ_23 (by decide) (by (try dsimp only) <;> first | assumption | omega | ((try simp (disch := omega) only [w32_of, w64_of, w8_of]) <;> first | assumption | omega | (split <;> omega) | (refine And.intro ?_ ?_ <;> split <;> omega)) | omega) (by (try dsimp only) <;> first | assumption | omega | ((try simp (disch := omega) only [w32_of, w64_of, w8_of]) <;> first | assumption | omega | (split <;> omega) | (refine And.intro ?_ ?_ <;> split <;> omega)) | omega)) ?_
              rintro x_33 - -
              refine wp_if (fun c24 => ?_) (fun c24 => ?_)
              · try simp (disch := omega) only [w32_of, w64_of, w8_of, decide_eq_true_eq, decide_eq_false_iff_not, Bool.not_eq_true] at c24
                exact wp_some ⟨(by (try dsimp only) <;> first | assumption | omega | ((try simp (disch := omega) only [w32_of, w64_of, w8_of]) <;> first | assumption | omega | (split <;> omega) | (refine And.intro ?_ ?_ <;> split <;> omega)) | omega), hσ_23, frσ_23⟩
              · try simp (disch := omega) only [w32_of, w64_of, w8_of, decide_eq_true_eq, decide_eq_false_iff_not, Bool.not_eq_true] at c24
                refine wp_bd (s_J_pairFault (σ := σ_23) (i_0 := i_12) (j_0 := j_22) hσ_23 (by (try dsimp only) <;> first | assumption | omega | ((try simp (disch := omega) only [w32_of, w64_of, w8_of]) <;> first | assumption | omega | (split <;> omega) | (refine And.intro ?_ ?_ <;> split <;> omega)) | omega) (by (try dsimp only) <;> first | assumption | omega | ((try simp (disch := omega) only [w32_of, w64_of, w8_of]) <;> first | assumption | omega | (split <;> omega) | (refine And.intro ?_ ?_ <;> split <;> omega)) | omega)) ?_
                rintro ⟨x_38, σ_37⟩ - y26
                try dsimp only at y26 ⊢
                obtain ⟨hσ_37, flσ_37, g25⟩ := y26
                have frσ_37 : FC [(kE_placeX 179), (kE_placeY 179), kJ_place] [] σ σ_37 := FC_tr frσ_23 flσ_37 (by first | decide | (rcases hE with rfl | rfl | rfl <;> decide)) (by first | decide | (rcases hE with rfl | rfl | rfl <;> decide)) (by simp) (by simp)
                try simp (disch := omega) only [w32_of, w64_of, w8_of] at g25
                exact wp_some ⟨(by (try dsimp only) <;> first | assumption | omega | ((try simp (disch := omega) only [w32_of, w64_of, w8_of]) <;> first | assumption | omega | (split <;> omega) | (refine And.intro ?_ ?_ <;> split <;> omega)) | omega), hσ_37, frσ_37⟩
            rintro ⟨x_40, σ_41⟩ _ y28
            try dsimp only at y28 ⊢
            obtain ⟨g27, hσ_41, frσ_41⟩ := y28
            have c30 := w32_rng x_40
            refine wp_if (fun c29 => ?_) (fun c29 => ?_)
            · try simp (disch := omega) only [w32_of, w64_of, w8_of, decide_eq_true_eq, decide_eq_false_iff_not, Bool.not_eq_true] at c29
              refine wp_bd (s_J_tellPair (σ := σ_41) (fault_0 := x_40) (i_0 := i_12) (j_0 := j_22) hσ_41 (by (try dsimp only) <;> first | assumption | omega | ((try simp (disch := omega) only [w32_of, w64_of, w8_of]) <;> first | assumption | omega | (split <;> omega) | (refine And.intro ?_ ?_ <;> split <;> omega)) | omega) (by (try dsimp only) <;> first | assumption | omega | ((try simp (disch := omega) only [w32_of, w64_of, w8_of]) <;> first | assumption | omega | (split <;> omega) | (refine And.intro ?_ ?_ <;> split <;> omega)) | omega)) ?_
              rintro ⟨x_45, σ_44⟩ - y32
              try dsimp only at y32 ⊢
              obtain ⟨hσ_44, flσ_44, g31⟩ := y32
              have frσ_44 : FC [(kE_placeX 179), (kE_placeY 179), kJ_place] [] σ σ_44 := FC_tr frσ_41 flσ_44 (by first | decide | (rcases hE with rfl | rfl | rfl <;> decide)) (by first | decide | (rcases hE with rfl | rfl | rfl <;> decide)) (by simp) (by simp)
              try simp (disch := omega) only [w32_of, w64_of, w8_of] at g31
              exact wp_some (x_inr (x_inr (x_inr (x_inr ⟨hσ_44, frσ_44, (by (try dsimp only) <;> first | assumption | omega | ((try simp (disch := omega) only [w32_of, w64_of, w8_of]) <;> first | assumption | omega | (split <;> omega) | (refine And.intro ?_ ?_ <;> split <;> omega)) | omega)⟩))))
            · try simp (disch := omega) only [w32_of, w64_of, w8_of, decide_eq_true_eq, decide_eq_false_iff_not, Bool.not_eq_true] at c29
              exact wp_some (x_inl ⟨⟨(by (try dsimp only) <;> first | assumption | omega | ((try simp (disch := omega) only [w32_of, w64_of, w8_of]) <;> first | assumption | omega | (split <;> omega) | (refine And.intro ?_ ?_ <;> split <;> omega)) | omega), hσ_41, frσ_41⟩, (by (try dsimp only) <;> first | assumption | omega | ((try simp (disch := omega) only [w32_of, w64_of, w8_of]) <;> first | assumption | omega | (split <;> omega) | (refine And.intro ?_ ?_ <;> split <;> omega)) | omega)⟩)
          · try simp (disch := omega) only [w32_of, w64_of, w8_of, decide_eq_true_eq, decide_eq_false_iff_not, Bool.not_eq_true] at c19
            exact wp_some (x_inr (x_inl ⟨(by (try dsimp only) <;> first | assumption | omega | ((try simp (disch := omega) only [w32_of, w64_of, w8_of]) <;> first | assumption | omega | (split <;> omega) | (refine And.intro ?_ ?_ <;> split <;> omega)) | omega), hσ_23, frσ_23⟩))
        rintro ⟨j_52, σ_53⟩ y34
        try dsimp only at y34 ⊢
        obtain ⟨g33, hσ_53, frσ_53⟩ := y34
        exact wp_some (x_inl ⟨⟨(by (try dsimp only) <;> first | assumption | omega | ((try simp (disch := omega) only [w32_of, w64_of, w8_of]) <;> first | assumption | omega | (split <;> omega) | (refine And.intro ?_ ?_ <;> split <;> omega)) | omega), hσ_53, frσ_53⟩, (by (try dsimp only) <;> first | assumption | omega | ((try simp (disch := omega) only [w32_of, w64_of, w8_of]) <;> first | assumption | omega | (split <;> omega) | (refine And.intro ?_ ?_ <;> split <;> omega)) | omega)⟩)
      · try simp (disch := omega) only [w32_of, w64_of, w8_of, decide_eq_true_eq, decide_eq_false_iff_not, Bool.not_eq_true] at c14
        exact wp_some (x_inr (x_inl ⟨(by (try dsimp only) <;> first | assumption | omega | ((try simp (disch := omega) only [w32_of, w64_of, w8_of]) <;> first | assumption | omega | (split <;> omega) | (refine And.intro ?_ ?_ <;> split <;> omega)) | omega), hσ_13, frσ_13⟩))
    rintro ⟨i_57, σ_58⟩ y36
    try dsimp only at y36 ⊢
    obtain ⟨g35, hσ_58, frσ_58⟩ := y36
    exact wp_some ⟨hσ_58, frσ_58, (by (try dsimp only) <;> first | assumption | omega | ((try simp (disch := omega) only [w32_of, w64_of, w8_of]) <;> first | assumption | omega | (split <;> omega) | (refine And.intro ?_ ?_ <;> split <;> omega)) | omega)⟩
theorem s_J_partPairsFault {σ : SG} {parts_0 : Int} (hσ : II σ) (w0 : 0 ≤ parts_0 ∧ parts_0 ≤ 2048) : wp_ (fJ_partPairsFault σ parts_0) (fun zz_ => II zz_.2 ∧ FC [(kE_placeX 179), (kE_placeY 179), kJ_place] [] σ zz_.2 ∧ (0 ≤ zz_.1 ∧ zz_.1 ≤ 10)) := by
  unfold fJ_partPairsFault
  refine wp_bx (P := fun rr_ => II rr_.2 ∧ FC [(kE_placeX 179), (kE_placeY 179), kJ_place] [] σ rr_.2) ?_ ?_
  · refine wp_whl (fun ss_ => II ss_.2 ∧ FC [(kE_placeX 179), (kE_placeY 179), kJ_place] [] σ ss_.2 ∧ (0 ≤ ss_.1 ∧ ss_.1 ≤ 2048)) (fun ss_ => (2049 - ss_.1).toNat) ⟨hσ, (FC_refl _ _ _), (by (try dsimp only) <;> first | assumption | omega | ((try simp (disch := omega) only [w32_of, w64_of, w8_of]) <;> first | assumption | omega | (split <;> omega) | (refine And.intro ?_ ?_ <;> split <;> omega)) | omega)⟩ ?_
    rintro ⟨part_1, σ_2⟩ y2
    try dsimp only at y2 ⊢
    obtain ⟨hσ_2, frσ_2, g1⟩ := y2
    have c4 := w32_rng (part_1 + 1)
    have c5 := w32_rng parts_0
    refine wp_if (fun c3 => ?_) (fun c3 => ?_)
    · try simp (disch := omega) only [w32_of, w64_of, w8_of, decide_eq_true_eq, decide_eq_false_iff_not, Bool.not_eq_true] at c3
      refine wp_bd (s_J_isEmpty (σ := σ_2) (part_0 := part_1) hσ_2 (by (try dsimp only) <;> first | assumption | omega | ((try simp (disch := omega) only [w32_of, w64_of, w8_of]) <;> first | assumption | omega | (split <;> omega) | (refine And.intro ?_ ?_ <;> split <;> omega)) | omega)) ?_
      rintro x_12 - g6
      have c7 := ii_kJ_partBegin hσ_2 part_1
      have c8 := FC_at frσ_2 (c := kJ_partBegin) (by first | decide | (rcases hE with rfl | rfl | rfl <;> decide)) part_1
      have c9 := ii_kJ_partBegin hσ part_1
      have c10 := ii_kJ_partEnd hσ_2 part_1
      have c11 := FC_at frσ_2 (c := kJ_partEnd) (by first | decide | (rcases hE with rfl | rfl | rfl <;> decide)) part_1
      have c12 := ii_kJ_partEnd hσ part_1
      try simp (disch := omega) only [w32_of, w64_of, w8_of] at g6
      refine wp_if (fun c13 => ?_) (fun c13 => ?_)
      · try simp (disch := omega) only [w32_of, w64_of, w8_of, decide_eq_true_eq, decide_eq_false_iff_not, Bool.not_eq_true] at c13
        exact wp_some (x_inl ⟨⟨hσ_2, frσ_2, (by (try dsimp only) <;> first | assumption | omega | ((try simp (disch := omega) only [w32_of, w64_of, w8_of]) <;> first | assumption | omega | (split <;> omega) | (refine And.intro ?_ ?_ <;> split <;> omega)) | omega)⟩, (by (try dsimp only) <;> first | assumption | omega | ((try simp (disch := omega) only [w32_of, w64_of, w8_of]) <;> first | assumption | omega | (split <;> omega) | (refine And.intro ?_ ?_ <;> split <;> omega)) | omega)⟩)
      · have k15 := g6 (Bool.eq_false_iff.mpr c13)
        try simp (disch := omega) only [w32_of, w64_of, w8_of] at k15
        try simp (disch := omega) only [w32_of, w64_of, w8_of, decide_eq_true_eq, decide_eq_false_iff_not, Bool.not_eq_true] at c13
        have c16 := w32_rng part_1
        refine wp_rdI (by (try dsimp only) <;> first | assumption | omega | ((try simp (disch := omega) only [w32_of, w64_of, w8_of]) <;> first | assumption | omega | (split <;> omega) | (refine And.intro ?_ ?_ <;> split <;> omega)) | omega) (by (try dsimp only) <;> first | assumption | omega | ((try simp (disch := omega) only [w32_of, w64_of, w8_of]) <;> first | assumption | omega | (split <;> omega) | (refine And.intro ?_ ?_ <;> split <;> omega)) | omega) (fun x_15 e_x_15 => ?_)
        have b_x_15 : 0 ≤ x_15 ∧ x_15 ≤ 2048 := by rw [e_x_15]; exact ii_kJ_partEnd hσ_2 _
        rw [FC_at frσ_2 (c := kJ_partEnd) (by first | decide | (rcases hE with rfl | rfl | rfl <;> decide))] at e_x_15
        try simp (disch := omega) only [w32_of, w64_of, w8_of] at e_x_15
        have c17 := w32_rng (x_15 - 1)
        refine wp_rdI (by (try dsimp only) <;> first | assumption | omega | ((try simp (disch := omega) only [w32_of, w64_of, w8_of]) <;> first | assumption | omega | (split <;> omega) | (refine And.intro ?_ ?_ <;> split <;> omega)) | omega) (by (try dsimp only) <;> first | assumption | omega | ((try simp (disch := omega) only [w32_of, w64_of, w8_of]) <;> first | assumption | omega | (split <;> omega) | (refine And.intro ?_ ?_ <;> split <;> omega)) | omega) (fun x_17 e_x_17 => ?_)
        have b_x_17 : 0 ≤ x_17 ∧ x_17 ≤ 2048 := by rw [e_x_17]; exact ii_kJ_ringEnd hσ_2 _
        rw [FC_at frσ_2 (c := kJ_ringEnd) (by first | decide | (rcases hE with rfl | rfl | rfl <;> decide))] at e_x_17
        try simp (disch := omega) only [w32_of, w64_of, w8_of] at e_x_17
        have c18 := ii_kJ_ringEnd hσ_2 (x_15 - 1)
        have c19 := FC_at frσ_2 (c := kJ_ringEnd) (by first | decide | (rcases hE with rfl | rfl | rfl <;> decide)) (x_15 - 1)
        have c20 := ii_kJ_ringEnd hσ (x_15 - 1)
        refine wp_rdI (by (try dsimp only) <;> first | assumption | omega | ((try simp (disch := omega) only [w32_of, w64_of, w8_of]) <;> first | assumption | omega | (split <;> omega) | (refine And.intro ?_ ?_ <;> split <;> omega)) | omega) (by (try dsimp only) <;> first | assumption | omega | ((try simp (disch := omega) only [w32_of, w64_of, w8_of]) <;> first | assumption | omega | (split <;> omega) | (refine And.intro ?_ ?_ <;> split <;> omega)) | omega) (fun x_19 e_x_19 => ?_)
        have b_x_19 : 0 ≤ x_19 ∧ x_19 ≤ 2048 := by rw [e_x_19]; exact ii_kJ_partBegin hσ_2 _
        rw [FC_at frσ_2 (c := kJ_partBegin) (by first | decide | (rcases hE with rfl | rfl | rfl <;> decide))] at e_x_19
        try simp (disch := omega) only [w32_of, w64_of, w8_of] at e_x_19
        have c21 := w32_rng x_19
        refine wp_rdI (by (try dsimp only) <;> first | assumption | omega | ((try simp (disch := omega) only [w32_of, w64_of, w8_of]) <;> first | assumption | omega | (split <;> omega) | (refine And.intro ?_ ?_ <;> split <;> omega)) | omega) (by (try dsimp only) <;> first | assumption | omega | ((try simp (disch := omega) only [w32_of, w64_of, w8_of]) <;> first | assumption | omega | (split <;> omega) | (refine And.intro ?_ ?_ <;> split <;> omega)) | omega) (fun x_21 e_x_21 => ?_)
        have b_x_21 : 0 ≤ x_21 ∧ x_21 ≤ 2047 := by rw [e_x_21]; exact ii_kJ_ringBegin hσ_2 _
        rw [FC_at frσ_2 (c := kJ_ringBegin) (by first | decide | (rcases hE with rfl | rfl | rfl <;> decide))] at e_x_21
        try simp (disch := omega) only [w32_of, w64_of, w8_of] at e_x_21
        have c22 := ii_kJ_ringBegin hσ_2 x_19
        have c23 := FC_at frσ_2 (c := kJ_ringBegin) (by first | decide | (rcases hE with rfl | rfl | rfl <;> decide)) x_19
        have c24 := ii_kJ_ringBegin hσ x_19
        refine wp_bx (P := fun rr_ => (0 ≤ rr_.1 ∧ rr_.1 ≤ 2048) ∧ II rr_.2 ∧ FC [(kE_placeX 179), (kE_placeY 179), kJ_place] [] σ rr_.2) ?_ ?_
        · refine wp_whl (fun ss_ => (0 ≤ ss_.1 ∧ ss_.1 ≤ 2048) ∧ II ss_.2 ∧ FC [(kE_placeX 179), (kE_placeY 179), kJ_place] [] σ ss_.2) (fun ss_ => (2049 - ss_.1).toNat) ⟨(by (try dsimp only) <;> first | assumption | omega | ((try simp (disch := omega) only [w32_of, w64_of, w8_of]) <;> first | assumption | omega | (split <;> omega) | (refine And.intro ?_ ?_ <;> split <;> omega)) | omega), hσ_2, frσ_2⟩ ?_
          rintro ⟨i_23, σ_24⟩ y26
          try dsimp only at y26 ⊢
          obtain ⟨g25, hσ_24, frσ_24⟩ := y26
          have c28 := w32_rng i_23
          have c29 := w32_rng x_17
          refine wp_if (fun c27 => ?_) (fun c27 => ?_)
          · try simp (disch := omega) only [w32_of, w64_of, w8_of, decide_eq_true_eq, decide_eq_false_iff_not, Bool.not_eq_true] at c27
            refine wp_bx (P := fun rr_ => II rr_.2 ∧ FC [(kE_placeX 179), (kE_placeY 179), kJ_place] [] σ rr_.2) ?_ ?_
            · refine wp_whl (fun ss_ => II ss_.2 ∧ FC [(kE_placeX 179), (kE_placeY 179), kJ_place] [] σ ss_.2 ∧ (0 ≤ ss_.1 ∧ ss_.1 ≤ 2048)) (fun ss_ => (2049 - ss_.1).toNat) ⟨hσ_24, frσ_24, (by (try dsimp only) <;> first | assumption | omega | ((try simp (disch := omega) only [w32_of, w64_of, w8_of]) <;> first | assumption | omega | (split <;> omega) | (refine And.intro ?_ ?_ <;> split <;> omega)) | omega)⟩ ?_
              rintro ⟨j_33, σ_34⟩ y31
              try dsimp only at y31 ⊢
              obtain ⟨hσ_34, frσ_34, g30⟩ := y31
              have c33 := w32_rng j_33
              have c34 := iiE_size (s := 179) hσ_34 (by decide) 0
              have c35 := FC_at frσ_34 (c := (kE_size 179)) (by first | decide | (rcases hE with rfl | rfl | rfl <;> decide)) 0
              have c36 := iiE_size (s := 179) hσ (by decide) 0
              have c37 := w32_rng (σ_34 (kE_size 179) 0)
              refine wp_if (fun c32 => ?_) (fun c32 => ?_)
              · try simp (disch := omega) only [w32_of, w64_of, w8_of, decide_eq_true_eq, decide_eq_false_iff_not, Bool.not_eq_true] at c32
                refine wp_bd (P := fun rr_ => (0 ≤ rr_.1 ∧ rr_.1 ≤ 5) ∧ II rr_.2 ∧ FC [(kE_placeX 179), (kE_placeY 179), kJ_place] [] σ rr_.2) ?_ ?_
                · have c38 : ((gsz 179 : Nat) : Int) = 2048 := by decide
                  have c39 : ((gsz 179 : Nat) : Int) = 2048 := by decide
                  refine wp_bd (s_E_areApart (σ := σ_34) (this_0 := 179) (i_0 := i_23) (j_0 := j_33) hσ_34 (by decide) (by (try dsimp only) <;> first | assumption | omega | ((try simp (disch := omega) only [w32_of, w64_of, w8_of]) <;> first | assumption | omega | (split <;> omega) | (refine And.intro ?_ ?_ <;> split <;> omega)) | omega) (by (try dsimp only) <;> first | assumption | omega | ((try simp (disch := omega) only [w32_of, w64_of, w8_of]) <;> first | assumption | omega | (split <;> omega) | (refine And.intro ?_ ?_ <;> split <;> omega)) | omega)) ?_
                  rintro x_44 - -
                  refine wp_if (fun c41 => ?_) (fun c41 => ?_)
                  · try simp (disch := omega) only [w32_of, w64_of, w8_of, decide_eq_true_eq, decide_eq_false_iff_not, Bool.not_eq_true] at c41
                    exact wp_some ⟨(by (try dsimp only) <;> first | assumption | omega | ((try simp (disch := omega) only [w32_of, w64_of, w8_of]) <;> first | assumption | omega | (split <;> omega) | (refine And.intro ?_ ?_ <;> split <;> omega)) | omega), hσ_34, frσ_34⟩
                  · try simp (disch := omega) only [w32_of, w64_of, w8_of, decide_eq_true_eq, decide_eq_false_iff_not, Bool.not_eq_true] at c41
                    refine wp_bd (s_J_pairFault (σ := σ_34) (i_0 := i_23) (j_0 := j_33) hσ_34 (by (try dsimp only) <;> first | assumption | omega | ((try simp (disch := omega) only [w32_of, w64_of, w8_of]) <;> first | assumption | omega | (split <;> omega) | (refine And.intro ?_ ?_ <;> split <;> omega)) | omega) (by (try dsimp only) <;> first | assumption | omega | ((try simp (disch := omega) only [w32_of, w64_of, w8_of]) <;> first | assumption | omega | (split <;> omega) | (refine And.intro ?_ ?_ <;> split <;> omega)) | omega)) ?_
                    rintro ⟨x_49, σ_48⟩ - y43
                    try dsimp only at y43 ⊢
                    obtain ⟨hσ_48, flσ_48, g42⟩ := y43
                    have frσ_48 : FC [(kE_placeX 179), (kE_placeY 179), kJ_place] [] σ σ_48 := FC_tr frσ_34 flσ_48 (by first | decide | (rcases hE with rfl | rfl | rfl <;> decide)) (by first | decide | (rcases hE with rfl | rfl | rfl <;> decide)) (by simp) (by simp)
                    try simp (disch := omega) only [w32_of, w64_of, w8_of] at g42
                    exact wp_some ⟨(by (try dsimp only) <;> first | assumption | omega | ((try simp (disch := omega) only [w32_of, w64_of, w8_of]) <;> first | assumption | omega | (split <;> omega) | (refine And.intro ?_ ?_ <;> split <;> omega)) | omega), hσ_48, frσ_48⟩
                rintro ⟨x_51, σ_52⟩ _ y45
                try dsimp only at y45 ⊢
                obtain ⟨g44, hσ_52, frσ_52⟩ := y45
                have c47 := w32_rng x_51
                refine wp_if (fun c46 => ?_) (fun c46 => ?_)
                · try simp (disch := omega) only [w32_of, w64_of, w8_of, decide_eq_true_eq, decide_eq_false_iff_not, Bool.not_eq_true] at c46
                  refine wp_bd (s_J_tellPair (σ := σ_52) (fault_0 := (if ((w32 x_51) = 3) then 9 else 10)) (i_0 := i_23) (j_0 := j_33) hσ_52 (by (try dsimp only) <;> first | assumption | omega | ((try simp (disch := omega) only [w32_of, w64_of, w8_of]) <;> first | assumption | omega | (split <;> omega) | (refine And.intro ?_ ?_ <;> split <;> omega)) | omega) (by (try dsimp only) <;> first | assumption | omega | ((try simp (disch := omega) only [w32_of, w64_of, w8_of]) <;> first | assumption | omega | (split <;> omega) | (refine And.intro ?_ ?_ <;> split <;> omega)) | omega)) ?_
                  rintro ⟨x_57, σ_56⟩ - y49
                  try dsimp only at y49 ⊢
                  obtain ⟨hσ_56, flσ_56, g48⟩ := y49
                  have frσ_56 : FC [(kE_placeX 179), (kE_placeY 179), kJ_place] [] σ σ_56 := FC_tr frσ_52 flσ_56 (by first | decide | (rcases hE with rfl | rfl | rfl <;> decide)) (by first | decide | (rcases hE with rfl | rfl | rfl <;> decide)) (by simp) (by simp)
                  try simp (disch := omega) only [w32_of, w64_of, w8_of] at g48
                  exact wp_some (x_inr (x_inr (x_inr (x_inr (x_inr (x_inr ⟨hσ_56, frσ_56, (by (try dsimp only) <;> first | assumption | omega | ((try simp (disch := omega) only [w32_of, w64_of, w8_of]) <;> first | assumption | omega | (split <;> omega) | (refine And.intro ?_ ?_ <;> split <;> omega)) | omega)⟩))))))
                · try simp (disch := omega) only [w32_of, w64_of, w8_of, decide_eq_true_eq, decide_eq_false_iff_not, Bool.not_eq_true] at c46
                  exact wp_some (x_inl ⟨⟨hσ_52, frσ_52, (by (try dsimp only) <;> first | assumption | omega | ((try simp (disch := omega) only [w32_of, w64_of, w8_of]) <;> first | assumption | omega | (split <;> omega) | (refine And.intro ?_ ?_ <;> split <;> omega)) | omega)⟩, (by (try dsimp only) <;> first | assumption | omega | ((try simp (disch := omega) only [w32_of, w64_of, w8_of]) <;> first | assumption | omega | (split <;> omega) | (refine And.intro ?_ ?_ <;> split <;> omega)) | omega)⟩)
              · try simp (disch := omega) only [w32_of, w64_of, w8_of, decide_eq_true_eq, decide_eq_false_iff_not, Bool.not_eq_true] at c32
                exact wp_some (x_inr (x_inl ⟨hσ_34, frσ_34⟩))
            rintro ⟨j_65, σ_66⟩ y50
            try dsimp only at y50 ⊢
            obtain ⟨hσ_66, frσ_66⟩ := y50
            exact wp_some (x_inl ⟨⟨(by (try dsimp only) <;> first | assumption | omega | ((try simp (disch := omega) only [w32_of, w64_of, w8_of]) <;> first | assumption | omega | (split <;> omega) | (refine And.intro ?_ ?_ <;> split <;> omega)) | omega), hσ_66, frσ_66⟩, (by (try dsimp only) <;> first | assumption | omega | ((try simp (disch := omega) only [w32_of, w64_of, w8_of]) <;> first | assumption | omega | (split <;> omega) | (refine And.intro ?_ ?_ <;> split <;> omega)) | omega)⟩)
          · try simp (disch := omega) only [w32_of, w64_of, w8_of, decide_eq_true_eq, decide_eq_false_iff_not, Bool.not_eq_true] at c27
            exact wp_some (x_inr (x_inl ⟨(by (try dsimp only) <;> first | assumption | omega | ((try simp (disch := omega) only [w32_of, w64_of, w8_of]) <;> first | assumption | omega | (split <;> omega) | (refine And.intro ?_ ?_ <;> split <;> omega)) | omega), hσ_24, frσ_24⟩))
        rintro ⟨i_70, σ_71⟩ y52
        try dsimp only at y52 ⊢
        obtain ⟨g51, hσ_71, frσ_71⟩ := y52
        exact wp_some (x_inl ⟨⟨hσ_71, frσ_71, (by (try dsimp only) <;> first | assumption | omega | ((try simp (disch := omega) only [w32_of, w64_of, w8_of]) <;> first | assumption | omega | (split <;> omega) | (refine And.intro ?_ ?_ <;> split <;> omega)) | omega)⟩, (by (try dsimp only) <;> first | assumption | omega | ((try simp (disch := omega) only [w32_of, w64_of, w8_of]) <;> first | assumption | omega | (split <;> omega) | (refine And.intro ?_ ?_ <;> split <;> omega)) | omega)⟩)
    · try simp (disch := omega) only [w32_of, w64_of, w8_of, decide_eq_true_eq, decide_eq_false_iff_not, Bool.not_eq_true] at c3
      exact wp_some (x_inr (x_inl ⟨hσ_2, frσ_2⟩))
  rintro ⟨part_75, σ_76⟩ y53
  try dsimp only at y53 ⊢
  obtain ⟨hσ_76, frσ_76⟩ := y53
  exact wp_some ⟨hσ_76, frσ_76, (by (try dsimp only) <;> first | assumption | omega | ((try simp (disch := omega) only [w32_of, w64_of, w8_of]) <;> first | assumption | omega | (split <;> omega) | (refine And.intro ?_ ?_ <;> split <;> omega)) | omega)⟩
theorem s_J_hasThreePlaces {σ : SG} {shape_0 : Nat} {from_0 : Int} {length_0 : Int} (hσ : II σ) (hs_shape_0 : isS shape_0) (w0 : 0 ≤ from_0) (w1 : 0 ≤ length_0 ∧ from_0 + length_0 ≤ 2048) : wp_ (fJ_hasThreePlaces σ shape_0 from_0 length_0) (fun zz_ => True) := by
  unfold fJ_hasThreePlaces
  refine wp_bx (P := fun rr_ => True) ?_ ?_
  · refine wp_whl (fun ss_ => (ss_.1 = from_0 ∨ (0 ≤ ss_.1 ∧ ss_.1 ≤ 2047)) ∧ (from_0 + 1 ≤ ss_.2 ∧ ss_.2 ≤ 2049)) (fun ss_ => (2050 - ss_.2).toNat) ⟨(by (try dsimp only) <;> first | assumption | omega | ((try simp (disch := omega) only [w32_of, w64_of, w8_of]) <;> first | assumption | omega | (split <;> omega) | (refine And.intro ?_ ?_ <;> split <;> omega)) | omega), (by (try dsimp only) <;> first | assumption | omega | ((try simp (disch := omega) only [w32_of, w64_of, w8_of]) <;> first | assumption | omega | (split <;> omega) | (refine And.intro ?_ ?_ <;> split <;> omega)) | omega)⟩ ?_
    rintro ⟨second_1, i_2⟩ y3
    try dsimp only at y3 ⊢
    obtain ⟨g1, g2⟩ := y3
    have c5 := w32_rng i_2
    have c6 := w32_rng (from_0 + length_0)
    refine wp_if (fun c4 => ?_) (fun c4 => ?_)
    · try simp (disch := omega) only [w32_of, w64_of, w8_of, decide_eq_true_eq, decide_eq_false_iff_not, Bool.not_eq_true] at c4
      refine wp_bd (s_A_areLike (σ := σ) (this_0 := shape_0) (i_0 := from_0) (j_0 := i_2) hσ (by first | assumption | decide | omega) (by (try dsimp only) <;> first | assumption | omega | ((try simp (disch := omega) only [w32_of, w64_of, w8_of]) <;> first | assumption | omega | (split <;> omega) | (refine And.intro ?_ ?_ <;> split <;> omega)) | omega) (by (try dsimp only) <;> first | assumption | omega | ((try simp (disch := omega) only [w32_of, w64_of, w8_of]) <;> first | assumption | omega | (split <;> omega) | (refine And.intro ?_ ?_ <;> split <;> omega)) | omega)) ?_
      rintro x_12 - g7
      have c8 := iiA_x (s := shape_0) hσ (by first | assumption | decide | omega) from_0
      have c9 := iiA_x (s := shape_0) hσ (by first | assumption | decide | omega) i_2
      have c10 := iiA_y (s := shape_0) hσ (by first | assumption | decide | omega) from_0
      have c11 := iiA_y (s := shape_0) hσ (by first | assumption | decide | omega) i_2
      try simp (disch := omega) only [w32_of, w64_of, w8_of] at g7
      refine wp_if (fun c12 => ?_) (fun c12 => ?_)
      · have k13 := g7.mp c12
        try simp (disch := omega) only [w32_of, w64_of, w8_of] at k13
        try simp (disch := omega) only [w32_of, w64_of, w8_of, decide_eq_true_eq, decide_eq_false_iff_not, Bool.not_eq_true] at c12
        exact wp_some (x_inl ⟨⟨(by (try dsimp only) <;> first | assumption | omega | ((try simp (disch := omega) only [w32_of, w64_of, w8_of]) <;> first | assumption | omega | (split <;> omega) | (refine And.intro ?_ ?_ <;> split <;> omega)) | omega), (by (try dsimp only) <;> first | assumption | omega | ((try simp (disch := omega) only [w32_of, w64_of, w8_of]) <;> first | assumption | omega | (split <;> omega) | (refine And.intro ?_ ?_ <;> split <;> omega)) | omega)⟩, (by (try dsimp only) <;> first | assumption | omega | ((try simp (disch := omega) only [w32_of, w64_of, w8_of]) <;> first | assumption | omega | (split <;> omega) | (refine And.intro ?_ ?_ <;> split <;> omega)) | omega)⟩)
      · have k14 := fun q => c12 (g7.mpr q)
        try simp (disch := omega) only [w32_of, w64_of, w8_of] at k14
        try simp (disch := omega) only [w32_of, w64_of, w8_of, decide_eq_true_eq, decide_eq_false_iff_not, Bool.not_eq_true] at c12
        refine wp_bx (P := fun rr_ => (rr_ = from_0 ∨ (0 ≤ rr_ ∧ rr_ ≤ 2047))) ?_ ?_
        · have c16 := w32_rng second_1
          have c17 := w32_rng from_0
          refine wp_if (fun c15 => ?_) (fun c15 => ?_)
          · try simp (disch := omega) only [w32_of, w64_of, w8_of, decide_eq_true_eq, decide_eq_false_iff_not, Bool.not_eq_true] at c15
            exact wp_some (x_inl (by (try dsimp only) <;> first | assumption | omega | ((try simp (disch := omega) only [w32_of, w64_of, w8_of]) <;> first | assumption | omega | (split <;> omega) | (refine And.intro ?_ ?_ <;> split <;> omega)) | omega))
          · try simp (disch := omega) only [w32_of, w64_of, w8_of, decide_eq_true_eq, decide_eq_false_iff_not, Bool.not_eq_true] at c15
            refine wp_bd (s_A_areLike (σ := σ) (this_0 := shape_0) (i_0 := second_1) (j_0 := i_2) hσ (by first | assumption | decide | omega) (by (try dsimp only) <;> first | assumption | omega | ((try simp (disch := omega) only [w32_of, w64_of, w8_of]) <;> first | assumption | omega | (split <;> omega) | (refine And.intro ?_ ?_ <;> split <;> omega)) | omega) (by (try dsimp only) <;> first | assumption | omega | ((try simp (disch := omega) only [w32_of, w64_of, w8_of]) <;> first | assumption | omega | (split <;> omega) | (refine And.intro ?_ ?_ <;> split <;> omega)) | omega)) ?_
            rintro x_22 - g18
            have c19 := iiA_x (s := shape_0) hσ (by first | assumption | decide | omega) second_1
            have c20 := iiA_y (s := shape_0) hσ (by first | assumption | decide | omega) second_1
            try simp (disch := omega) only [w32_of, w64_of, w8_of] at g18
            refine wp_if (fun c21 => ?_) (fun c21 => ?_)
            · have k22 := g18.mp c21
              try simp (disch := omega) only [w32_of, w64_of, w8_of] at k22
              try simp (disch := omega) only [w32_of, w64_of, w8_of, decide_eq_true_eq, decide_eq_false_iff_not, Bool.not_eq_true] at c21
              exact wp_some (x_inl (by (try dsimp only) <;> first | assumption | omega | ((try simp (disch := omega) only [w32_of, w64_of, w8_of]) <;> first | assumption | omega | (split <;> omega) | (refine And.intro ?_ ?_ <;> split <;> omega)) | omega))
            · have k23 := fun q => c21 (g18.mpr q)
              try simp (disch := omega) only [w32_of, w64_of, w8_of] at k23
              try simp (disch := omega) only [w32_of, w64_of, w8_of, decide_eq_true_eq, decide_eq_false_iff_not, Bool.not_eq_true] at c21
              exact wp_some (x_inr (x_inr (x_inr trivial)))
        rintro second_25 g24
        exact wp_some (x_inl ⟨⟨(by (try dsimp only) <;> first | assumption | omega | ((try simp (disch := omega) only [w32_of, w64_of, w8_of]) <;> first | assumption | omega | (split <;> omega) | (refine And.intro ?_ ?_ <;> split <;> omega)) | omega), (by (try dsimp only) <;> first | assumption | omega | ((try simp (disch := omega) only [w32_of, w64_of, w8_of]) <;> first | assumption | omega | (split <;> omega) | (refine And.intro ?_ ?_ <;> split <;> omega)) | omega)⟩, (by (try dsimp only) <;> first | assumption | omega | ((try simp (disch := omega) only [w32_of, w64_of, w8_of]) <;> first | assumption | omega | (split <;> omega) | (refine And.intro ?_ ?_ <;> split <;> omega)) | omega)⟩)
    · try simp (disch := omega) only [w32_of, w64_of, w8_of, decide_eq_true_eq, decide_eq_false_iff_not, Bool.not_eq_true] at c4
      exact wp_some (x_inr (x_inl trivial))
  rintro ⟨second_29, i_30⟩ -
  try dsimp only
  exact wp_some trivial
theorem s_J_ringsFault {σ : SG} {shape_0 : Nat} {at_0 : Int} {begin_0 : Int} {part_0 : Int} (hσ : II σ) (hs_shape_0 : isS shape_0) (w0 : ENa σ shape_0 at_0) (w1 : 0 ≤ begin_0) (w2 : begin_0 + eP (σ (kA_plan shape_0)) at_0 ≤ 2048) (w3 : 0 ≤ part_0 ∧ part_0 ≤ 2047) : wp_ (fJ_ringsFault σ shape_0 at_0 begin_0 part_0) (fun zz_ => II zz_.2 ∧ FC [kJ_place] [] σ zz_.2 ∧ (0 ≤ zz_.1 ∧ zz_.1 ≤ 15) ∧ ((zz_.1 = 0) → (∀ k0, 0 ≤ k0 → k0 < rN (σ (kA_plan shape_0)) at_0 → 0 < rL (σ (kA_plan shape_0)) at_0 k0))) := by
  unfold fJ_ringsFault
  obtain ⟨ho, h0, h1, h2⟩ := id w0
  have hRe := rS_end ho
  refine wp_bx (P := fun rr_ => II rr_.2.2 ∧ FC [kJ_place] [] σ rr_.2.2 ∧ (∀ k0, 0 ≤ k0 → k0 < rN (σ (kA_plan shape_0)) at_0 → 0 < rL (σ (kA_plan shape_0)) at_0 k0)) ?_ ?_
  · refine wp_whl (fun ss_ => II ss_.2.2 ∧ FC [kJ_place] [] σ ss_.2.2 ∧ (0 ≤ ss_.2.1 ∧ ss_.2.1 ≤ rN (σ (kA_plan shape_0)) at_0) ∧ (ss_.1 = begin_0 + rS (σ (kA_plan shape_0)) at_0 ss_.2.1) ∧ (∀ k0, 0 ≤ k0 → k0 < ss_.2.1 → 0 < rL (σ (kA_plan shape_0)) at_0 k0)) (fun ss_ => (rN (σ (kA_plan shape_0)) at_0 - ss_.2.1).toNat) ⟨hσ, (FC_refl _ _ _), (by (try dsimp only) <;> first | assumption | omega | ((try simp (disch := omega) only [w32_of, w64_of, w8_of]) <;> first | assumption | omega | (split <;> omega) | (refine And.intro ?_ ?_ <;> split <;> omega)) | omega), (by (try dsimp only) <;> (first | (rw [rS_0]; omega) | omega)), (by (try dsimp only) <;> (first | (intro r a b; omega) | (intro r a b; by_cases z : r = ring_2 <;> first | (rw [z]; omega) | exact gk r a (by omega))))⟩ ?_
    rintro ⟨from_1, ring_2, σ_3⟩ y3
    try dsimp only at y3 ⊢
    obtain ⟨hσ_3, frσ_3, g1, g2, gk⟩ := y3
    refine wp_bd (s_A_rows (σ := σ_3) (this_0 := shape_0) (at_0 := at_0) hσ_3 (by first | assumption | decide | omega) (ENa_f frσ_3 (by first | assumption | decide | omega) (NS_0 _) w0)) ?_
    rintro x_12 - ⟨g4, g5⟩
    try simp only [FC_plan (t := shape_0) frσ_3 (by first | assumption | decide | omega) (NS_0 _)] at g4
    try simp (disch := omega) only [w32_of, w64_of, w8_of] at g4
    try simp (disch := omega) only [w32_of, w64_of, w8_of] at g5
    have c7 := w32_rng ring_2
    have c8 := w32_rng x_12
    refine wp_if (fun c6 => ?_) (fun c6 => ?_)
    · try simp (disch := omega) only [w32_of, w64_of, w8_of, decide_eq_true_eq, decide_eq_false_iff_not, Bool.not_eq_true] at c6
      have hg := rS_go ho (show 0 ≤ ring_2 by omega) (by omega)
      refine wp_bd (s_A_rowLength (σ := σ_3) (this_0 := shape_0) (at_0 := at_0) (row_0 := ring_2) hσ_3 (by first | assumption | decide | omega) (ENa_f frσ_3 (by first | assumption | decide | omega) (NS_0 _) w0) (by (try simp only [FC_plan (t := shape_0) frσ_3 (by first | assumption | decide | omega) (NS_0 _)]) <;> ((try dsimp only) <;> first | assumption | omega | ((try simp (disch := omega) only [w32_of, w64_of, w8_of]) <;> first | assumption | omega | (split <;> omega) | (refine And.intro ?_ ?_ <;> split <;> omega)) | omega))) ?_
      rintro x_15 - ⟨g9, g10⟩
      try simp only [FC_plan (t := shape_0) frσ_3 (by first | assumption | decide | omega) (NS_0 _)] at g9
      try simp (disch := omega) only [w32_of, w64_of, w8_of] at g9
      try simp (disch := omega) only [w32_of, w64_of, w8_of] at g10
      refine wp_bd (s_A_isClosed (σ := σ_3) (this_0 := shape_0) (from_0 := from_1) (length_0 := x_15) hσ_3 (by first | assumption | decide | omega) (by (try dsimp only) <;> first | assumption | omega | ((try simp (disch := omega) only [w32_of, w64_of, w8_of]) <;> first | assumption | omega | (split <;> omega) | (refine And.intro ?_ ?_ <;> split <;> omega)) | omega) (by (try dsimp only) <;> first | assumption | omega | ((try simp (disch := omega) only [w32_of, w64_of, w8_of]) <;> first | assumption | omega | (split <;> omega) | (refine And.intro ?_ ?_ <;> split <;> omega)) | omega)) ?_
      rintro x_17 - g11
      try simp only [FC_x (t := shape_0) frσ_3 (by first | assumption | decide | omega) (NS_0 _)] at g11
      try simp only [FC_y (t := shape_0) frσ_3 (by first | assumption | decide | omega) (NS_0 _)] at g11
      have c12 := iiA_x (s := shape_0) hσ (by first | assumption | decide | omega) from_1
      have c13 := iiA_x (s := shape_0) hσ (by first | assumption | decide | omega) (from_1 + x_15 - 1)
      have c14 := iiA_y (s := shape_0) hσ (by first | assumption | decide | omega) from_1
      have c15 := iiA_y (s := shape_0) hσ (by first | assumption | decide | omega) (from_1 + x_15 - 1)
      try simp (disch := omega) only [w32_of, w64_of, w8_of] at g11
      refine wp_if (fun c16 => ?_) (fun c16 => ?_)
      · have k17 := g11.mp c16
        try simp (disch := omega) only [w32_of, w64_of, w8_of] at k17
        try simp (disch := omega) only [w32_of, w64_of, w8_of, decide_eq_true_eq, decide_eq_false_iff_not, Bool.not_eq_true] at c16
        refine wp_bd (s_J_hasThreePlaces (σ := σ_3) (shape_0 := shape_0) (from_0 := from_1) (length_0 := x_15) hσ_3 (by first | assumption | decide | omega) (by (try dsimp only) <;> first | assumption | omega | ((try simp (disch := omega) only [w32_of, w64_of, w8_of]) <;> first | assumption | omega | (split <;> omega) | (refine And.intro ?_ ?_ <;> split <;> omega)) | omega) (by (try dsimp only) <;> first | assumption | omega | ((try simp (disch := omega) only [w32_of, w64_of, w8_of]) <;> first | assumption | omega | (split <;> omega) | (refine And.intro ?_ ?_ <;> split <;> omega)) | omega)) ?_
        rintro x_20 - -
        refine wp_if (fun c19 => ?_) (fun c19 => ?_)
        · try simp (disch := omega) only [w32_of, w64_of, w8_of, decide_eq_true_eq, decide_eq_false_iff_not, Bool.not_eq_true] at c19
          exact wp_some (x_inl ⟨⟨hσ_3, frσ_3, (by (try dsimp only) <;> first | assumption | omega | ((try simp (disch := omega) only [w32_of, w64_of, w8_of]) <;> first | assumption | omega | (split <;> omega) | (refine And.intro ?_ ?_ <;> split <;> omega)) | omega), (by (try dsimp only) <;> (first | (rw [rS_0]; omega) | omega)), (by (try dsimp only) <;> (first | (intro r a b; omega) | (intro r a b; by_cases z : r = ring_2 <;> first | (rw [z]; omega) | exact gk r a (by omega))))⟩, (by (try dsimp only) <;> first | assumption | omega | ((try simp (disch := omega) only [w32_of, w64_of, w8_of]) <;> first | assumption | omega | (split <;> omega) | (refine And.intro ?_ ?_ <;> split <;> omega)) | omega)⟩)
        · try simp (disch := omega) only [w32_of, w64_of, w8_of, decide_eq_true_eq, decide_eq_false_iff_not, Bool.not_eq_true] at c19
          refine wp_bd (s_J_tell (σ := σ_3) (fault_0 := 2) (part_0 := part_0) (ring_0 := ring_2) hσ_3 (by (try dsimp only) <;> first | assumption | omega | ((try simp (disch := omega) only [w32_of, w64_of, w8_of]) <;> first | assumption | omega | (split <;> omega) | (refine And.intro ?_ ?_ <;> split <;> omega)) | omega) (by (try dsimp only) <;> first | assumption | omega | ((try simp (disch := omega) only [w32_of, w64_of, w8_of]) <;> first | assumption | omega | (split <;> omega) | (refine And.intro ?_ ?_ <;> split <;> omega)) | omega)) ?_
          rintro ⟨x_25, σ_24⟩ - y21
          try dsimp only at y21 ⊢
          obtain ⟨hσ_24, flσ_24, g20⟩ := y21
          have frσ_24 : FC [kJ_place] [] σ σ_24 := FC_tr frσ_3 flσ_24 (by first | decide | (rcases hE with rfl | rfl | rfl <;> decide)) (by first | decide | (rcases hE with rfl | rfl | rfl <;> decide)) (by simp) (by simp)
          try simp (disch := omega) only [w32_of, w64_of, w8_of] at g20
          exact wp_some (x_inr (x_inr ⟨hσ_24, frσ_24, (by (try dsimp only) <;> first | assumption | omega | ((try simp (disch := omega) only [w32_of, w64_of, w8_of]) <;> first | assumption | omega | (split <;> omega) | (refine And.intro ?_ ?_ <;> split <;> omega)) | omega), (by (try dsimp only) <;> (first | (intro _; exact gk) | (intro q; omega)))⟩))
      · have k22 := fun q => c16 (g11.mpr q)
        try simp (disch := omega) only [w32_of, w64_of, w8_of] at k22
        try simp (disch := omega) only [w32_of, w64_of, w8_of, decide_eq_true_eq, decide_eq_false_iff_not, Bool.not_eq_true] at c16
        refine wp_bd (s_J_tell (σ := σ_3) (fault_0 := 1) (part_0 := part_0) (ring_0 := ring_2) hσ_3 (by (try dsimp only) <;> first | assumption | omega | ((try simp (disch := omega) only [w32_of, w64_of, w8_of]) <;> first | assumption | omega | (split <;> omega) | (refine And.intro ?_ ?_ <;> split <;> omega)) | omega) (by (try dsimp only) <;> first | assumption | omega | ((try simp (disch := omega) only [w32_of, w64_of, w8_of]) <;> first | assumption | omega | (split <;> omega) | (refine And.intro ?_ ?_ <;> split <;> omega)) | omega)) ?_
        rintro ⟨x_28, σ_27⟩ - y24
        try dsimp only at y24 ⊢
        obtain ⟨hσ_27, flσ_27, g23⟩ := y24
        have frσ_27 : FC [kJ_place] [] σ σ_27 := FC_tr frσ_3 flσ_27 (by first | decide | (rcases hE with rfl | rfl | rfl <;> decide)) (by first | decide | (rcases hE with rfl | rfl | rfl <;> decide)) (by simp) (by simp)
        try simp (disch := omega) only [w32_of, w64_of, w8_of] at g23
        exact wp_some (x_inr (x_inr ⟨hσ_27, frσ_27, (by (try dsimp only) <;> first | assumption | omega | ((try simp (disch := omega) only [w32_of, w64_of, w8_of]) <;> first | assumption | omega | (split <;> omega) | (refine And.intro ?_ ?_ <;> split <;> omega)) | omega), (by (try dsimp only) <;> (first | (intro _; exact gk) | (intro q; omega)))⟩))
    · try simp (disch := omega) only [w32_of, w64_of, w8_of, decide_eq_true_eq, decide_eq_false_iff_not, Bool.not_eq_true] at c6
      exact wp_some (x_inr (x_inl ⟨hσ_3, frσ_3, (by (try dsimp only) <;> (exact fun r a b => gk r a (by omega)))⟩))
  rintro ⟨from_30, ring_31, σ_32⟩ y25
  try dsimp only at y25 ⊢
  obtain ⟨hσ_32, frσ_32, gk⟩ := y25
  exact wp_some ⟨hσ_32, frσ_32, (by (try dsimp only) <;> first | assumption | omega | ((try simp (disch := omega) only [w32_of, w64_of, w8_of]) <;> first | assumption | omega | (split <;> omega) | (refine And.intro ?_ ?_ <;> split <;> omega)) | omega), (by (try dsimp only) <;> (first | (intro _; exact gk) | (intro q; omega)))⟩
theorem s_J_layOut {σ : SG} {shape_0 : Nat} {at_0 : Int} {begin_0 : Int} {part_0 : Int} (hσ : II σ) (hs_shape_0 : isS shape_0) (w0 : ENa σ shape_0 at_0) (w1 : 0 ≤ begin_0) (w2 : begin_0 + eP (σ (kA_plan shape_0)) at_0 ≤ 2048) (w3 : 0 ≤ part_0 ∧ part_0 ≤ 2047) (w4 : ∀ k0, 0 ≤ k0 → k0 < rN (σ (kA_plan shape_0)) at_0 → 0 < rL (σ (kA_plan shape_0)) at_0 k0) (w5 : σ (kE_size 179) 0 ≤ begin_0) : wp_ (fJ_layOut σ shape_0 at_0 begin_0 part_0) (fun zz_ => II zz_ ∧ FC [46080, 46336, 46592, 46848, 47104, (kE_size 179), kJ_number, kJ_partBegin, kJ_partEnd, kJ_ringBegin, kJ_ringEnd, kJ_ringNumber, kJ_ringPart, kJ_rings] [] σ zz_ ∧ (zz_ (kE_size 179) 0 ≤ begin_0 + eP (σ (kA_plan shape_0)) at_0)) := by
  unfold fJ_layOut
  have c1 := iiE_size (s := 179) hσ (by decide) 0
  obtain ⟨ho, h0, h1, h2⟩ := id w0
  have hRe := rS_end ho
  have c2 := ii_kJ_rings hσ 0
  have c3 := w32_rng part_0
  refine wp_waI hσ b_kJ_partBegin (by (try dsimp only) <;> first | assumption | omega | ((try simp (disch := omega) only [w32_of, w64_of, w8_of]) <;> first | assumption | omega | (split <;> omega) | (refine And.intro ?_ ?_ <;> split <;> omega)) | omega) (by (try dsimp only) <;> first | assumption | omega | ((try simp (disch := omega) only [w32_of, w64_of, w8_of]) <;> first | assumption | omega | (split <;> omega) | (refine And.intro ?_ ?_ <;> split <;> omega)) | omega) (by (try dsimp only) <;> first | assumption | omega | ((try simp (disch := omega) only [w32_of, w64_of, w8_of]) <;> first | assumption | omega | (split <;> omega) | (refine And.intro ?_ ?_ <;> split <;> omega)) | omega) (fun σ_1 hσ_1 eσ_1 => ?_)
  try simp (disch := omega) only [w32_of, w64_of, w8_of] at eσ_1
  have flσ_1 := FC_sg eσ_1 (by first | decide | (rcases hE with rfl | rfl | rfl <;> decide))
  have frσ_1 : FC [46080, 46336, 46592, 46848, 47104, (kE_size 179), kJ_number, kJ_partBegin, kJ_partEnd, kJ_ringBegin, kJ_ringEnd, kJ_ringNumber, kJ_ringPart, kJ_rings] [] σ σ_1 := FC_le flσ_1 (by first | decide | (rcases hE with rfl | rfl | rfl <;> decide)) (by simp)
  refine wp_bd (P := fun rr_ => II rr_.2.2 ∧ FC [46080, 46336, 46592, 46848, 47104, (kE_size 179), kJ_number, kJ_partBegin, kJ_partEnd, kJ_ringBegin, kJ_ringEnd, kJ_ringNumber, kJ_ringPart, kJ_rings] [] σ rr_.2.2 ∧ (rr_.2.2 (kE_size 179) 0 ≤ begin_0 + eP (σ (kA_plan shape_0)) at_0)) ?_ ?_
  · have c4 := iiE_size (s := 179) hσ_1 (by decide) 0
    have c5 := FC_at flσ_1 (c := (kE_size 179)) (by first | decide | (rcases hE with rfl | rfl | rfl <;> decide)) 0
    refine wp_whl (fun ss_ => II ss_.2.2 ∧ FC [46080, 46336, 46592, 46848, 47104, (kE_size 179), kJ_number, kJ_partBegin, kJ_partEnd, kJ_ringBegin, kJ_ringEnd, kJ_ringNumber, kJ_ringPart, kJ_rings] [] σ ss_.2.2 ∧ (0 ≤ ss_.2.1 ∧ ss_.2.1 ≤ rN (σ (kA_plan shape_0)) at_0) ∧ (ss_.1 = begin_0 + rS (σ (kA_plan shape_0)) at_0 ss_.2.1) ∧ (ss_.2.2 (kE_size 179) 0 ≤ ss_.1)) (fun ss_ => (rN (σ (kA_plan shape_0)) at_0 - ss_.2.1).toNat) ⟨hσ_1, frσ_1, (by (try dsimp only) <;> first | assumption | omega | ((try simp (disch := omega) only [w32_of, w64_of, w8_of]) <;> first | assumption | omega | (split <;> omega) | (refine And.intro ?_ ?_ <;> split <;> omega)) | omega), (by (try dsimp only) <;> (first | (rw [rS_0]; omega) | omega)), (by (try dsimp only) <;> first | assumption | omega | ((try simp (disch := omega) only [w32_of, w64_of, w8_of]) <;> first | assumption | omega | (split <;> omega) | (refine And.intro ?_ ?_ <;> split <;> omega)) | omega)⟩ ?_
    rintro ⟨from_3, ring_4, σ_5⟩ y8
    try dsimp only at y8 ⊢
    obtain ⟨hσ_5, frσ_5, g6, hfr, g7⟩ := y8
    refine wp_bd (s_A_rows (σ := σ_5) (this_0 := shape_0) (at_0 := at_0) hσ_5 (by first | assumption | decide | omega) (ENa_f frσ_5 (by first | assumption | decide | omega) (NS_0 _) w0)) ?_
    rintro x_22 - ⟨g9, g10⟩
    try simp only [FC_plan (t := shape_0) frσ_5 (by first | assumption | decide | omega) (NS_0 _)] at g9
    try simp (disch := omega) only [w32_of, w64_of, w8_of] at g9
    try simp (disch := omega) only [w32_of, w64_of, w8_of] at g10
    have c12 := w32_rng ring_4
    have c13 := w32_rng x_22
    refine wp_if (fun c11 => ?_) (fun c11 => ?_)
    · try simp (disch := omega) only [w32_of, w64_of, w8_of, decide_eq_true_eq, decide_eq_false_iff_not, Bool.not_eq_true] at c11
      have hg := rS_go ho (show 0 ≤ ring_4 by omega) (by omega)
      have hgk := w4 ring_4 (by omega) (by omega)
      have c15 := ii_kJ_rings hσ_5 0
      have c16 := w32_rng (σ_5 kJ_rings 0)
      refine wp_if (fun c14 => ?_) (fun c14 => ?_)
      · try simp (disch := omega) only [w32_of, w64_of, w8_of, decide_eq_true_eq, decide_eq_false_iff_not, Bool.not_eq_true] at c14
        refine wp_bd (s_A_rowLength (σ := σ_5) (this_0 := shape_0) (at_0 := at_0) (row_0 := ring_4) hσ_5 (by first | assumption | decide | omega) (ENa_f frσ_5 (by first | assumption | decide | omega) (NS_0 _) w0) (by (try simp only [FC_plan (t := shape_0) frσ_5 (by first | assumption | decide | omega) (NS_0 _)]) <;> ((try dsimp only) <;> first | assumption | omega | ((try simp (disch := omega) only [w32_of, w64_of, w8_of]) <;> first | assumption | omega | (split <;> omega) | (refine And.intro ?_ ?_ <;> split <;> omega)) | omega))) ?_
        rintro x_26 - ⟨g17, g18⟩
        try simp only [FC_plan (t := shape_0) frσ_5 (by first | assumption | decide | omega) (NS_0 _)] at g17
        try simp (disch := omega) only [w32_of, w64_of, w8_of] at g17
        try simp (disch := omega) only [w32_of, w64_of, w8_of] at g18
        refine wp_waI hσ_5 b_kJ_ringPart (by (try dsimp only) <;> first | assumption | omega | ((try simp (disch := omega) only [w32_of, w64_of, w8_of]) <;> first | assumption | omega | (split <;> omega) | (refine And.intro ?_ ?_ <;> split <;> omega)) | omega) (by (try dsimp only) <;> first | assumption | omega | ((try simp (disch := omega) only [w32_of, w64_of, w8_of]) <;> first | assumption | omega | (split <;> omega) | (refine And.intro ?_ ?_ <;> split <;> omega)) | omega) (by (try dsimp only) <;> first | assumption | omega | ((try simp (disch := omega) only [w32_of, w64_of, w8_of]) <;> first | assumption | omega | (split <;> omega) | (refine And.intro ?_ ?_ <;> split <;> omega)) | omega) (fun σ_27 hσ_27 eσ_27 => ?_)
        try simp (disch := omega) only [w32_of, w64_of, w8_of] at eσ_27
        have flσ_27 := FC_sg eσ_27 (by first | decide | (rcases hE with rfl | rfl | rfl <;> decide))
        have frσ_27 : FC [46080, 46336, 46592, 46848, 47104, (kE_size 179), kJ_number, kJ_partBegin, kJ_partEnd, kJ_ringBegin, kJ_ringEnd, kJ_ringNumber, kJ_ringPart, kJ_rings] [] σ σ_27 := FC_tr frσ_5 flσ_27 (by first | decide | (rcases hE with rfl | rfl | rfl <;> decide)) (by first | decide | (rcases hE with rfl | rfl | rfl <;> decide)) (by simp) (by simp)
        have c19 := ii_kJ_rings hσ_27 0
        have c20 := FC_at flσ_27 (c := kJ_rings) (by first | decide | (rcases hE with rfl | rfl | rfl <;> decide)) 0
        have c21 := w32_rng (σ_27 kJ_rings 0)
        refine wp_waI hσ_27 b_kJ_ringNumber (by (try dsimp only) <;> first | assumption | omega | ((try simp (disch := omega) only [w32_of, w64_of, w8_of]) <;> first | assumption | omega | (split <;> omega) | (refine And.intro ?_ ?_ <;> split <;> omega)) | omega) (by (try dsimp only) <;> first | assumption | omega | ((try simp (disch := omega) only [w32_of, w64_of, w8_of]) <;> first | assumption | omega | (split <;> omega) | (refine And.intro ?_ ?_ <;> split <;> omega)) | omega) (by (try dsimp only) <;> first | assumption | omega | ((try simp (disch := omega) only [w32_of, w64_of, w8_of]) <;> first | assumption | omega | (split <;> omega) | (refine And.intro ?_ ?_ <;> split <;> omega)) | omega) (fun σ_29 hσ_29 eσ_29 => ?_)
        try simp (disch := omega) only [w32_of, w64_of, w8_of] at eσ_29
        have flσ_29 := FC_sg eσ_29 (by first | decide | (rcases hE with rfl | rfl | rfl <;> decide))
        have frσ_29 : FC [46080, 46336, 46592, 46848, 47104, (kE_size 179), kJ_number, kJ_partBegin, kJ_partEnd, kJ_ringBegin, kJ_ringEnd, kJ_ringNumber, kJ_ringPart, kJ_rings] [] σ σ_29 := FC_tr frσ_27 flσ_29 (by first | decide | (rcases hE with rfl | rfl | rfl <;> decide)) (by first | decide | (rcases hE with rfl | rfl | rfl <;> decide)) (by simp) (by simp)
        have c22 := iiE_size (s := 179) hσ_29 (by decide) 0
        have c23 := FC_at flσ_29 (c := (kE_size 179)) (by first | decide | (rcases hE with rfl | rfl | rfl <;> decide)) 0
        have c24 := iiE_size (s := 179) hσ_27 (by decide) 0
        have c25 := FC_at flσ_27 (c := (kE_size 179)) (by first | decide | (rcases hE with rfl | rfl | rfl <;> decide)) 0
        have c26 := iiE_size (s := 179) hσ_5 (by decide) 0
        have c27 := ii_kJ_rings hσ_29 0
        have c28 := FC_at flσ_29 (c := kJ_rings) (by first | decide | (rcases hE with rfl | rfl | rfl <;> decide)) 0
        have c29 := w32_rng (σ_29 kJ_rings 0)
        refine wp_waI hσ_29 b_kJ_ringBegin (by (try dsimp only) <;> first | assumption | omega | ((try simp (disch := omega) only [w32_of, w64_of, w8_of]) <;> first | assumption | omega | (split <;> omega) | (refine And.intro ?_ ?_ <;> split <;> omega)) | omega) (by (try dsimp only) <;> first | assumption | omega | ((try simp (disch := omega) only [w32_of, w64_of, w8_of]) <;> first | assumption | omega | (split <;> omega) | (refine And.intro ?_ ?_ <;> split <;> omega)) | omega) (by (try dsimp only) <;> first | assumption | omega | ((try simp (disch := omega) only [w32_of, w64_of, w8_of]) <;> first | assumption | omega | (split <;> omega) | (refine And.intro ?_ ?_ <;> split <;> omega)) | omega) (fun σ_31 hσ_31 eσ_31 => ?_)
        try simp (disch := omega) only [w32_of, w64_of, w8_of] at eσ_31
        have flσ_31 := FC_sg eσ_31 (by first | decide | (rcases hE with rfl | rfl | rfl <;> decide))
        have frσ_31 : FC [46080, 46336, 46592, 46848, 47104, (kE_size 179), kJ_number, kJ_partBegin, kJ_partEnd, kJ_ringBegin, kJ_ringEnd, kJ_ringNumber, kJ_ringPart, kJ_rings] [] σ σ_31 := FC_tr frσ_29 flσ_31 (by first | decide | (rcases hE with rfl | rfl | rfl <;> decide)) (by first | decide | (rcases hE with rfl | rfl | rfl <;> decide)) (by simp) (by simp)
        refine wp_bd (P := fun rr_ => II rr_.2 ∧ FC [46080, 46336, 46592, 46848, 47104, (kE_size 179), kJ_number, kJ_partBegin, kJ_partEnd, kJ_ringBegin, kJ_ringEnd, kJ_ringNumber, kJ_ringPart, kJ_rings] [] σ rr_.2 ∧ (rr_.2 (kE_size 179) 0 ≤ from_3 + x_26) ∧ (rr_.2 kJ_rings 0 = σ_5 kJ_rings 0)) ?_ ?_
        · have c30 := iiE_size (s := 179) hσ_31 (by decide) 0
          have c31 := FC_at flσ_31 (c := (kE_size 179)) (by first | decide | (rcases hE with rfl | rfl | rfl <;> decide)) 0
          have c32 := ii_kJ_rings hσ_31 0
          have c33 := FC_at flσ_31 (c := kJ_rings) (by first | decide | (rcases hE with rfl | rfl | rfl <;> decide)) 0
          refine wp_whl (fun ss_ => II ss_.2 ∧ FC [46080, 46336, 46592, 46848, 47104, (kE_size 179), kJ_number, kJ_partBegin, kJ_partEnd, kJ_ringBegin, kJ_ringEnd, kJ_ringNumber, kJ_ringPart, kJ_rings] [] σ ss_.2 ∧ (0 ≤ ss_.1 ∧ ss_.1 ≤ 2048) ∧ (ss_.2 (kE_size 179) 0 ≤ from_3 + ss_.1) ∧ (ss_.2 kJ_rings 0 = σ_5 kJ_rings 0) ∧ (ss_.1 = 0 ∨ ss_.1 + 1 ≤ x_26)) (fun ss_ => (2049 - ss_.1).toNat) ⟨hσ_31, frσ_31, (by (try dsimp only) <;> first | assumption | omega | ((try simp (disch := omega) only [w32_of, w64_of, w8_of]) <;> first | assumption | omega | (split <;> omega) | (refine And.intro ?_ ?_ <;> split <;> omega)) | omega), (by (try dsimp only) <;> first | assumption | omega | ((try simp (disch := omega) only [w32_of, w64_of, w8_of]) <;> first | assumption | omega | (split <;> omega) | (refine And.intro ?_ ?_ <;> split <;> omega)) | omega), (by (try dsimp only) <;> first | assumption | omega | ((try simp (disch := omega) only [w32_of, w64_of, w8_of]) <;> first | assumption | omega | (split <;> omega) | (refine And.intro ?_ ?_ <;> split <;> omega)) | omega), (by (try dsimp only) <;> first | assumption | omega | ((try simp (disch := omega) only [w32_of, w64_of, w8_of]) <;> first | assumption | omega | (split <;> omega) | (refine And.intro ?_ ?_ <;> split <;> omega)) | omega)⟩ ?_
          rintro ⟨i_33, σ_34⟩ y38
          try dsimp only at y38 ⊢
          obtain ⟨hσ_34, frσ_34, g34, g35, g36, g37⟩ := y38
          have c40 := w32_rng (i_33 + 1)
          have c41 := w32_rng x_26
          have c42 := iiE_size (s := 179) hσ_34 (by decide) 0
          have c43 := w32_rng (σ_34 (kE_size 179) 0)
          refine wp_if (fun c39 => ?_) (fun c39 => ?_)
          · try simp (disch := omega) only [w32_of, w64_of, w8_of, decide_eq_true_eq, decide_eq_false_iff_not, Bool.not_eq_true] at c39
            refine wp_bd (P := fun rr_ => II rr_ ∧ FC [46080, 46336, 46592, 46848, 47104, (kE_size 179), kJ_number, kJ_partBegin, kJ_partEnd, kJ_ringBegin, kJ_ringEnd, kJ_ringNumber, kJ_ringPart, kJ_rings] [] σ rr_ ∧ (rr_ (kE_size 179) 0 ≤ σ_34 (kE_size 179) 0 + 1) ∧ (rr_ kJ_rings 0 = σ_34 kJ_rings 0)) ?_ ?_
            · refine wp_bd (s_A_areLike (σ := σ_34) (this_0 := shape_0) (i_0 := (from_3 + i_33)) (j_0 := ((from_3 + i_33) + 1)) hσ_34 (by first | assumption | decide | omega) (by (try dsimp only) <;> first | assumption | omega | ((try simp (disch := omega) only [w32_of, w64_of, w8_of]) <;> first | assumption | omega | (split <;> omega) | (refine And.intro ?_ ?_ <;> split <;> omega)) | omega) (by (try dsimp only) <;> first | assumption | omega | ((try simp (disch := omega) only [w32_of, w64_of, w8_of]) <;> first | assumption | omega | (split <;> omega) | (refine And.intro ?_ ?_ <;> split <;> omega)) | omega)) ?_
              rintro x_47 - g44
              try simp only [FC_x (t := shape_0) frσ_34 (by first | assumption | decide | omega) (NS_0 _)] at g44
              try simp only [FC_y (t := shape_0) frσ_34 (by first | assumption | decide | omega) (NS_0 _)] at g44
              have c45 := iiA_x (s := shape_0) hσ (by first | assumption | decide | omega) (from_3 + i_33)
              have c46 := iiA_x (s := shape_0) hσ (by first | assumption | decide | omega) ((from_3 + i_33) + 1)
              have c47 := iiA_y (s := shape_0) hσ (by first | assumption | decide | omega) (from_3 + i_33)
              have c48 := iiA_y (s := shape_0) hσ (by first | assumption | decide | omega) ((from_3 + i_33) + 1)
              try simp (disch := omega) only [w32_of, w64_of, w8_of] at g44
              refine wp_if (fun c49 => ?_) (fun c49 => ?_)
              · have k50 := g44.mp c49
                try simp (disch := omega) only [w32_of, w64_of, w8_of] at k50
                try simp (disch := omega) only [w32_of, w64_of, w8_of, decide_eq_true_eq, decide_eq_false_iff_not, Bool.not_eq_true] at c49
                have c51 := ii_kJ_rings hσ_34 0
                exact wp_some ⟨hσ_34, frσ_34, (by (try dsimp only) <;> (first | omega | exact (if z : x_54 = true then (by have q1 := (ha3 z).1; omega) else (by rw [ha2 (Bool.eq_false_iff.mpr z)]; omega)))), (by (try dsimp only) <;> first | assumption | omega | ((try simp (disch := omega) only [w32_of, w64_of, w8_of]) <;> first | assumption | omega | (split <;> omega) | (refine And.intro ?_ ?_ <;> split <;> omega)) | omega)⟩
              · have k52 := fun q => c49 (g44.mpr q)
                try simp (disch := omega) only [w32_of, w64_of, w8_of] at k52
                try simp (disch := omega) only [w32_of, w64_of, w8_of, decide_eq_true_eq, decide_eq_false_iff_not, Bool.not_eq_true] at c49
                refine wp_waI hσ_34 b_kJ_number (by (try dsimp only) <;> first | assumption | omega | ((try simp (disch := omega) only [w32_of, w64_of, w8_of]) <;> first | assumption | omega | (split <;> omega) | (refine And.intro ?_ ?_ <;> split <;> omega)) | omega) (by (try dsimp only) <;> first | assumption | omega | ((try simp (disch := omega) only [w32_of, w64_of, w8_of]) <;> first | assumption | omega | (split <;> omega) | (refine And.intro ?_ ?_ <;> split <;> omega)) | omega) (by (try dsimp only) <;> first | assumption | omega | ((try simp (disch := omega) only [w32_of, w64_of, w8_of]) <;> first | assumption | omega | (split <;> omega) | (refine And.intro ?_ ?_ <;> split <;> omega)) | omega) (fun σ_50 hσ_50 eσ_50 => ?_)
                try simp (disch := omega) only [w32_of, w64_of, w8_of] at eσ_50
                have flσ_50 := FC_sg eσ_50 (by first | decide | (rcases hE with rfl | rfl | rfl <;> decide))
                have frσ_50 : FC [46080, 46336, 46592, 46848, 47104, (kE_size 179), kJ_number, kJ_partBegin, kJ_partEnd, kJ_ringBegin, kJ_ringEnd, kJ_ringNumber, kJ_ringPart, kJ_rings] [] σ σ_50 := FC_tr frσ_34 flσ_50 (by first | decide | (rcases hE with rfl | rfl | rfl <;> decide)) (by first | decide | (rcases hE with rfl | rfl | rfl <;> decide)) (by simp) (by simp)
                have c53 := ii_kJ_rings hσ_50 0
                have c54 := FC_at flσ_50 (c := kJ_rings) (by first | decide | (rcases hE with rfl | rfl | rfl <;> decide)) 0
                have c55 := ii_kJ_rings hσ_34 0
                refine wp_bd (v_addE (σ := σ_50) (this_0 := 179) (shape_0 := shape_0) (from_0 := (from_3 + i_33)) (to_0 := ((from_3 + i_33) + 1)) (itsMark_0 := (σ_50 kJ_rings 0)) hσ_50 (by decide) (by first | assumption | decide | omega) (by (try dsimp only) <;> first | assumption | omega | ((try simp (disch := omega) only [w32_of, w64_of, w8_of]) <;> first | assumption | omega | (split <;> omega) | (refine And.intro ?_ ?_ <;> split <;> omega)) | omega) (by (try dsimp only) <;> first | assumption | omega | ((try simp (disch := omega) only [w32_of, w64_of, w8_of]) <;> first | assumption | omega | (split <;> omega) | (refine And.intro ?_ ?_ <;> split <;> omega)) | omega) (by rw [bE_mark179]; exact ⟨by omega, by omega⟩)) ?_
                rintro ⟨x_54, σ_53⟩ - y56
                try dsimp only at y56 ⊢
                obtain ⟨hσ_53, flσ_53, ha0, ha1, ha2, ha3⟩ := y56
                have frσ_53 : FC [46080, 46336, 46592, 46848, 47104, (kE_size 179), kJ_number, kJ_partBegin, kJ_partEnd, kJ_ringBegin, kJ_ringEnd, kJ_ringNumber, kJ_ringPart, kJ_rings] [] σ σ_53 := FC_tr frσ_50 flσ_53 (by first | decide | (rcases hE with rfl | rfl | rfl <;> decide)) (by first | decide | (rcases hE with rfl | rfl | rfl <;> decide)) (by simp) (by simp)
                have c57 := iiE_size (s := 179) hσ_50 (by decide) 0
                have c58 := FC_at flσ_50 (c := (kE_size 179)) (by first | decide | (rcases hE with rfl | rfl | rfl <;> decide)) 0
                have c59 := iiE_size (s := 179) hσ_53 (by decide) 0
                try simp (disch := omega) only [w32_of, w64_of, w8_of] at ha0
                try simp (disch := omega) only [w32_of, w64_of, w8_of] at ha1
                try simp (disch := omega) only [w32_of, w64_of, w8_of] at ha2
                try simp only [FC_x (t := shape_0) frσ_50 (by first | assumption | decide | omega) (NS_0 _)] at ha3
                try simp only [FC_y (t := shape_0) frσ_50 (by first | assumption | decide | omega) (NS_0 _)] at ha3
                try simp (disch := omega) only [w32_of, w64_of, w8_of] at ha3
                have c60 := ii_kJ_rings hσ_53 0
                have c61 := FC_at flσ_53 (c := kJ_rings) (by first | decide | (rcases hE with rfl | rfl | rfl <;> decide)) 0
                exact wp_some ⟨hσ_53, frσ_53, (by (try dsimp only) <;> (first | omega | exact (if z : x_54 = true then (by have q1 := (ha3 z).1; omega) else (by rw [ha2 (Bool.eq_false_iff.mpr z)]; omega)))), (by (try dsimp only) <;> first | assumption | omega | ((try simp (disch := omega) only [w32_of, w64_of, w8_of]) <;> first | assumption | omega | (split <;> omega) | (refine And.intro ?_ ?_ <;> split <;> omega)) | omega)⟩
            rintro σ_56 _ ⟨hσ_56, frσ_56, g62, g63⟩
            have c64 := iiE_size (s := 179) hσ_56 (by decide) 0
            have c65 := ii_kJ_rings hσ_56 0
            exact wp_some (x_inl ⟨⟨hσ_56, frσ_56, (by (try dsimp only) <;> first | assumption | omega | ((try simp (disch := omega) only [w32_of, w64_of, w8_of]) <;> first | assumption | omega | (split <;> omega) | (refine And.intro ?_ ?_ <;> split <;> omega)) | omega), (by (try dsimp only) <;> first | assumption | omega | ((try simp (disch := omega) only [w32_of, w64_of, w8_of]) <;> first | assumption | omega | (split <;> omega) | (refine And.intro ?_ ?_ <;> split <;> omega)) | omega), (by (try dsimp only) <;> first | assumption | omega | ((try simp (disch := omega) only [w32_of, w64_of, w8_of]) <;> first | assumption | omega | (split <;> omega) | (refine And.intro ?_ ?_ <;> split <;> omega)) | omega), (by (try dsimp only) <;> first | assumption | omega | ((try simp (disch := omega) only [w32_of, w64_of, w8_of]) <;> first | assumption | omega | (split <;> omega) | (refine And.intro ?_ ?_ <;> split <;> omega)) | omega)⟩, (by (try dsimp only) <;> first | assumption | omega | ((try simp (disch := omega) only [w32_of, w64_of, w8_of]) <;> first | assumption | omega | (split <;> omega) | (refine And.intro ?_ ?_ <;> split <;> omega)) | omega)⟩)
          · try simp (disch := omega) only [w32_of, w64_of, w8_of, decide_eq_true_eq, decide_eq_false_iff_not, Bool.not_eq_true] at c39
            have c66 := ii_kJ_rings hσ_34 0
            exact wp_some (x_inr ⟨hσ_34, frσ_34, (by (try dsimp only) <;> first | assumption | omega | ((try simp (disch := omega) only [w32_of, w64_of, w8_of]) <;> first | assumption | omega | (split <;> omega) | (refine And.intro ?_ ?_ <;> split <;> omega)) | omega), (by (try dsimp only) <;> first | assumption | omega | ((try simp (disch := omega) only [w32_of, w64_of, w8_of]) <;> first | assumption | omega | (split <;> omega) | (refine And.intro ?_ ?_ <;> split <;> omega)) | omega)⟩)
        rintro ⟨i_67, σ_68⟩ _ y69
        try dsimp only at y69 ⊢
        obtain ⟨hσ_68, frσ_68, g67, g68⟩ := y69
        have c70 := iiE_size (s := 179) hσ_68 (by decide) 0
        have c71 := ii_kJ_rings hσ_68 0
        have c72 := w32_rng (σ_68 kJ_rings 0)
        refine wp_waI hσ_68 b_kJ_ringEnd (by (try dsimp only) <;> first | assumption | omega | ((try simp (disch := omega) only [w32_of, w64_of, w8_of]) <;> first | assumption | omega | (split <;> omega) | (refine And.intro ?_ ?_ <;> split <;> omega)) | omega) (by (try dsimp only) <;> first | assumption | omega | ((try simp (disch := omega) only [w32_of, w64_of, w8_of]) <;> first | assumption | omega | (split <;> omega) | (refine And.intro ?_ ?_ <;> split <;> omega)) | omega) (by (try dsimp only) <;> first | assumption | omega | ((try simp (disch := omega) only [w32_of, w64_of, w8_of]) <;> first | assumption | omega | (split <;> omega) | (refine And.intro ?_ ?_ <;> split <;> omega)) | omega) (fun σ_69 hσ_69 eσ_69 => ?_)
        try simp (disch := omega) only [w32_of, w64_of, w8_of] at eσ_69
        have flσ_69 := FC_sg eσ_69 (by first | decide | (rcases hE with rfl | rfl | rfl <;> decide))
        have frσ_69 : FC [46080, 46336, 46592, 46848, 47104, (kE_size 179), kJ_number, kJ_partBegin, kJ_partEnd, kJ_ringBegin, kJ_ringEnd, kJ_ringNumber, kJ_ringPart, kJ_rings] [] σ σ_69 := FC_tr frσ_68 flσ_69 (by first | decide | (rcases hE with rfl | rfl | rfl <;> decide)) (by first | decide | (rcases hE with rfl | rfl | rfl <;> decide)) (by simp) (by simp)
        have c73 := ii_kJ_rings hσ_69 0
        have c74 := FC_at flσ_69 (c := kJ_rings) (by first | decide | (rcases hE with rfl | rfl | rfl <;> decide)) 0
        refine wp_wfI hσ_69 b_kJ_rings (by (try dsimp only) <;> first | assumption | omega | ((try simp (disch := omega) only [w32_of, w64_of, w8_of]) <;> first | assumption | omega | (split <;> omega) | (refine And.intro ?_ ?_ <;> split <;> omega)) | omega) (fun σ_71 hσ_71 eσ_71 => ?_)
        try simp (disch := omega) only [w32_of, w64_of, w8_of] at eσ_71
        have flσ_71 := FC_sg eσ_71 (by first | decide | (rcases hE with rfl | rfl | rfl <;> decide))
        have frσ_71 : FC [46080, 46336, 46592, 46848, 47104, (kE_size 179), kJ_number, kJ_partBegin, kJ_partEnd, kJ_ringBegin, kJ_ringEnd, kJ_ringNumber, kJ_ringPart, kJ_rings] [] σ σ_71 := FC_tr frσ_69 flσ_71 (by first | decide | (rcases hE with rfl | rfl | rfl <;> decide)) (by first | decide | (rcases hE with rfl | rfl | rfl <;> decide)) (by simp) (by simp)
        have c75 := iiE_size (s := 179) hσ_71 (by decide) 0
        have c76 := FC_at flσ_71 (c := (kE_size 179)) (by first | decide | (rcases hE with rfl | rfl | rfl <;> decide)) 0
        have c77 := iiE_size (s := 179) hσ_69 (by decide) 0
        have c78 := FC_at flσ_69 (c := (kE_size 179)) (by first | decide | (rcases hE with rfl | rfl | rfl <;> decide)) 0
        exact wp_some (x_inl ⟨⟨hσ_71, frσ_71, (by (try dsimp only) <;> first | assumption | omega | ((try simp (disch := omega) only [w32_of, w64_of, w8_of]) <;> first | assumption | omega | (split <;> omega) | (refine And.intro ?_ ?_ <;> split <;> omega)) | omega), (by (try dsimp only) <;> (first | (rw [rS_0]; omega) | omega)), (by (try dsimp only) <;> first | assumption | omega | ((try simp (disch := omega) only [w32_of, w64_of, w8_of]) <;> first | assumption | omega | (split <;> omega) | (refine And.intro ?_ ?_ <;> split <;> omega)) | omega)⟩, (by (try dsimp only) <;> first | assumption | omega | ((try simp (disch := omega) only [w32_of, w64_of, w8_of]) <;> first | assumption | omega | (split <;> omega) | (refine And.intro ?_ ?_ <;> split <;> omega)) | omega)⟩)
      · try simp (disch := omega) only [w32_of, w64_of, w8_of, decide_eq_true_eq, decide_eq_false_iff_not, Bool.not_eq_true] at c14
        have c79 := iiE_size (s := 179) hσ_5 (by decide) 0
        exact wp_some (x_inr ⟨hσ_5, frσ_5, (by (try dsimp only) <;> first | assumption | omega | ((try simp (disch := omega) only [w32_of, w64_of, w8_of]) <;> first | assumption | omega | (split <;> omega) | (refine And.intro ?_ ?_ <;> split <;> omega)) | omega)⟩)
    · try simp (disch := omega) only [w32_of, w64_of, w8_of, decide_eq_true_eq, decide_eq_false_iff_not, Bool.not_eq_true] at c11
      have hz : ring_4 = rN (σ (kA_plan shape_0)) at_0 := by omega
      rw [hz, hRe.1] at hfr
      have c80 := iiE_size (s := 179) hσ_5 (by decide) 0
      exact wp_some (x_inr ⟨hσ_5, frσ_5, (by (try dsimp only) <;> first | assumption | omega | ((try simp (disch := omega) only [w32_of, w64_of, w8_of]) <;> first | assumption | omega | (split <;> omega) | (refine And.intro ?_ ?_ <;> split <;> omega)) | omega)⟩)
  rintro ⟨from_76, ring_77, σ_78⟩ _ y82
  try dsimp only at y82 ⊢
  obtain ⟨hσ_78, frσ_78, g81⟩ := y82
  have c83 := ii_kJ_rings hσ_78 0
  refine wp_waI hσ_78 b_kJ_partEnd (by (try dsimp only) <;> first | assumption | omega | ((try simp (disch := omega) only [w32_of, w64_of, w8_of]) <;> first | assumption | omega | (split <;> omega) | (refine And.intro ?_ ?_ <;> split <;> omega)) | omega) (by (try dsimp only) <;> first | assumption | omega | ((try simp (disch := omega) only [w32_of, w64_of, w8_of]) <;> first | assumption | omega | (split <;> omega) | (refine And.intro ?_ ?_ <;> split <;> omega)) | omega) (by (try dsimp only) <;> first | assumption | omega | ((try simp (disch := omega) only [w32_of, w64_of, w8_of]) <;> first | assumption | omega | (split <;> omega) | (refine And.intro ?_ ?_ <;> split <;> omega)) | omega) (fun σ_79 hσ_79 eσ_79 => ?_)
  try simp (disch := omega) only [w32_of, w64_of, w8_of] at eσ_79
  have flσ_79 := FC_sg eσ_79 (by first | decide | (rcases hE with rfl | rfl | rfl <;> decide))
  have frσ_79 : FC [46080, 46336, 46592, 46848, 47104, (kE_size 179), kJ_number, kJ_partBegin, kJ_partEnd, kJ_ringBegin, kJ_ringEnd, kJ_ringNumber, kJ_ringPart, kJ_rings] [] σ σ_79 := FC_tr frσ_78 flσ_79 (by first | decide | (rcases hE with rfl | rfl | rfl <;> decide)) (by first | decide | (rcases hE with rfl | rfl | rfl <;> decide)) (by simp) (by simp)
  have c84 := iiE_size (s := 179) hσ_79 (by decide) 0
  have c85 := FC_at flσ_79 (c := (kE_size 179)) (by first | decide | (rcases hE with rfl | rfl | rfl <;> decide)) 0
  have c86 := iiE_size (s := 179) hσ_78 (by decide) 0
  exact wp_some ⟨hσ_79, frσ_79, (by (try dsimp only) <;> first | assumption | omega | ((try simp (disch := omega) only [w32_of, w64_of, w8_of]) <;> first | assumption | omega | (split <;> omega) | (refine And.intro ?_ ?_ <;> split <;> omega)) | omega)⟩
theorem s_J_polygonsFault {σ : SG} {shape_0 : Nat} {first_0 : Int} {begin_0 : Int} {parts_0 : Int} (hσ : II σ) (hs_shape_0 : isS shape_0) (w0 : FLa σ shape_0 first_0 begin_0) (w1 : 0 ≤ parts_0 ∧ parts_0 ≤ 2048) : wp_ (fJ_polygonsFault σ shape_0 first_0 begin_0 parts_0) (fun zz_ => II zz_.2 ∧ FC [46080, 46336, 46592, 46848, 47104, (kE_placeX 179), (kE_placeY 179), (kE_size 179), kJ_joined, kJ_number, kJ_partBegin, kJ_partEnd, kJ_place, kJ_ringBegin, kJ_ringEnd, kJ_ringNumber, kJ_ringPart, kJ_rings] [] σ zz_.2 ∧ (0 ≤ zz_.1 ∧ zz_.1 ≤ 15)) := by
  unfold fJ_polygonsFault
  have hpl := iiA_plans hσ hs_shape_0 0
  have hpt := iiA_points hσ hs_shape_0 0
  have hle0 := FLa_le w0
  refine wp_wfI hσ (bE_size (s := 179) (by decide)) (by (try dsimp only) <;> first | assumption | omega | ((try simp (disch := omega) only [w32_of, w64_of, w8_of]) <;> first | assumption | omega | (split <;> omega) | (refine And.intro ?_ ?_ <;> split <;> omega)) | omega) (fun σ_1 hσ_1 eσ_1 => ?_)
  try simp (disch := omega) only [w32_of, w64_of, w8_of] at eσ_1
  have flσ_1 := FC_sg eσ_1 (by first | decide | (rcases hE with rfl | rfl | rfl <;> decide))
  have frσ_1 : FC [46080, 46336, 46592, 46848, 47104, (kE_placeX 179), (kE_placeY 179), (kE_size 179), kJ_joined, kJ_number, kJ_partBegin, kJ_partEnd, kJ_place, kJ_ringBegin, kJ_ringEnd, kJ_ringNumber, kJ_ringPart, kJ_rings] [] σ σ_1 := FC_le flσ_1 (by first | decide | (rcases hE with rfl | rfl | rfl <;> decide)) (by simp)
  refine wp_wfI hσ_1 b_kJ_rings (by (try dsimp only) <;> first | assumption | omega | ((try simp (disch := omega) only [w32_of, w64_of, w8_of]) <;> first | assumption | omega | (split <;> omega) | (refine And.intro ?_ ?_ <;> split <;> omega)) | omega) (fun σ_2 hσ_2 eσ_2 => ?_)
  try simp (disch := omega) only [w32_of, w64_of, w8_of] at eσ_2
  have flσ_2 := FC_sg eσ_2 (by first | decide | (rcases hE with rfl | rfl | rfl <;> decide))
  have frσ_2 : FC [46080, 46336, 46592, 46848, 47104, (kE_placeX 179), (kE_placeY 179), (kE_size 179), kJ_joined, kJ_number, kJ_partBegin, kJ_partEnd, kJ_place, kJ_ringBegin, kJ_ringEnd, kJ_ringNumber, kJ_ringPart, kJ_rings] [] σ σ_2 := FC_tr frσ_1 flσ_2 (by first | decide | (rcases hE with rfl | rfl | rfl <;> decide)) (by first | decide | (rcases hE with rfl | rfl | rfl <;> decide)) (by simp) (by simp)
  refine wp_bx (P := fun rr_ => II rr_.2.2.2 ∧ FC [46080, 46336, 46592, 46848, 47104, (kE_placeX 179), (kE_placeY 179), (kE_size 179), kJ_joined, kJ_number, kJ_partBegin, kJ_partEnd, kJ_place, kJ_ringBegin, kJ_ringEnd, kJ_ringNumber, kJ_ringPart, kJ_rings] [] σ rr_.2.2.2) ?_ ?_
  · have c1 := iiE_size (s := 179) hσ_2 (by decide) 0
    have c2 := FC_at flσ_2 (c := (kE_size 179)) (by first | decide | (rcases hE with rfl | rfl | rfl <;> decide)) 0
    have c3 := iiE_size (s := 179) hσ_1 (by decide) 0
    have c4 := sg_val eσ_1
    refine wp_whl (fun ss_ => II ss_.2.2.2 ∧ FC [46080, 46336, 46592, 46848, 47104, (kE_placeX 179), (kE_placeY 179), (kE_size 179), kJ_joined, kJ_number, kJ_partBegin, kJ_partEnd, kJ_place, kJ_ringBegin, kJ_ringEnd, kJ_ringNumber, kJ_ringPart, kJ_rings] [] σ ss_.2.2.2 ∧ (FLa σ shape_0 ss_.1 ss_.2.1) ∧ (0 ≤ ss_.2.2.1) ∧ (2 * ss_.2.2.1 ≤ ss_.1) ∧ (ss_.2.2.2 (kE_size 179) 0 ≤ ss_.2.1)) (fun ss_ => (2048 - ss_.1).toNat) ⟨hσ_2, frσ_2, (by (try dsimp only) <;> (first | assumption | exact w0 | (rw [hbh, hpa]; exact hn))), (by (try dsimp only) <;> first | assumption | omega | ((try simp (disch := omega) only [w32_of, w64_of, w8_of]) <;> first | assumption | omega | (split <;> omega) | (refine And.intro ?_ ?_ <;> split <;> omega)) | omega), (by (try dsimp only) <;> first | assumption | omega | ((try simp (disch := omega) only [w32_of, w64_of, w8_of]) <;> first | assumption | omega | (split <;> omega) | (refine And.intro ?_ ?_ <;> split <;> omega)) | omega), (by (try dsimp only) <;> first | assumption | omega | ((try simp (disch := omega) only [w32_of, w64_of, w8_of]) <;> first | assumption | omega | (split <;> omega) | (refine And.intro ?_ ?_ <;> split <;> omega)) | omega)⟩ ?_
    rintro ⟨at_3, from_4, part_5, σ_6⟩ y8
    try dsimp only at y8 ⊢
    obtain ⟨hσ_6, frσ_6, gw, g5, g6, g7⟩ := y8
    have hle := FLa_le gw
    have c10 := w32_rng part_5
    have c11 := w32_rng parts_0
    have c12 := w32_rng (at_3 + 1)
    have c13 := iiA_plans (s := shape_0) hσ_6 (by first | assumption | decide | omega) 0
    have c14 := congrFun (FC_plans (t := shape_0) frσ_6 (by first | assumption | decide | omega) (NS_0 _)) 0
    have c15 := iiA_plans (s := shape_0) hσ (by first | assumption | decide | omega) 0
    have c16 := w32_rng (σ_6 (kA_plans shape_0) 0)
    refine wp_if (fun c9 => ?_) (fun c9 => ?_)
    · try simp (disch := omega) only [w32_of, w64_of, w8_of, decide_eq_true_eq, decide_eq_false_iff_not, Bool.not_eq_true] at c9
      obtain ⟨he, hn, h2, h3, h4, h5, h6⟩ := FLa_hd hσ hs_shape_0 gw (by omega)
      obtain ⟨ho, -, -, -⟩ := id he
      refine wp_bd (s_J_ringsFault (σ := σ_6) (shape_0 := shape_0) (at_0 := at_3) (begin_0 := from_4) (part_0 := part_5) hσ_6 (by first | assumption | decide | omega) (ENa_f frσ_6 (by first | assumption | decide | omega) (NS_0 _) he) (by (try dsimp only) <;> first | assumption | omega | ((try simp (disch := omega) only [w32_of, w64_of, w8_of]) <;> first | assumption | omega | (split <;> omega) | (refine And.intro ?_ ?_ <;> split <;> omega)) | omega) (by (try simp only [FC_plan (t := shape_0) frσ_6 (by first | assumption | decide | omega) (NS_0 _)]) <;> ((try dsimp only) <;> first | assumption | omega | ((try simp (disch := omega) only [w32_of, w64_of, w8_of]) <;> first | assumption | omega | (split <;> omega) | (refine And.intro ?_ ?_ <;> split <;> omega)) | omega)) (by (try dsimp only) <;> first | assumption | omega | ((try simp (disch := omega) only [w32_of, w64_of, w8_of]) <;> first | assumption | omega | (split <;> omega) | (refine And.intro ?_ ?_ <;> split <;> omega)) | omega)) ?_
      rintro ⟨x_16, σ_15⟩ - y17
      try dsimp only at y17 ⊢
      obtain ⟨hσ_15, flσ_15, hr0, hrk⟩ := y17
      have frσ_15 : FC [46080, 46336, 46592, 46848, 47104, (kE_placeX 179), (kE_placeY 179), (kE_size 179), kJ_joined, kJ_number, kJ_partBegin, kJ_partEnd, kJ_place, kJ_ringBegin, kJ_ringEnd, kJ_ringNumber, kJ_ringPart, kJ_rings] [] σ σ_15 := FC_tr frσ_6 flσ_15 (by first | decide | (rcases hE with rfl | rfl | rfl <;> decide)) (by first | decide | (rcases hE with rfl | rfl | rfl <;> decide)) (by simp) (by simp)
      try simp (disch := omega) only [w32_of, w64_of, w8_of] at hr0
      try simp only [FC_plan (t := shape_0) frσ_6 (by first | assumption | decide | omega) (NS_0 _)] at hrk
      try simp (disch := omega) only [w32_of, w64_of, w8_of] at hrk
      refine wp_bd (P := fun rr_ => (0 ≤ rr_.1 ∧ rr_.1 ≤ 15) ∧ II rr_.2 ∧ FC [46080, 46336, 46592, 46848, 47104, (kE_placeX 179), (kE_placeY 179), (kE_size 179), kJ_joined, kJ_number, kJ_partBegin, kJ_partEnd, kJ_place, kJ_ringBegin, kJ_ringEnd, kJ_ringNumber, kJ_ringPart, kJ_rings] [] σ rr_.2 ∧ (0 ≤ rr_.1 ∧ rr_.1 ≤ 15) ∧ (rr_.2 (kE_size 179) 0 ≤ from_4 + eP (σ (kA_plan shape_0)) at_3)) ?_ ?_
      · have c19 := w32_rng x_16
        refine wp_if (fun c18 => ?_) (fun c18 => ?_)
        · try simp (disch := omega) only [w32_of, w64_of, w8_of, decide_eq_true_eq, decide_eq_false_iff_not, Bool.not_eq_true] at c18
          have c20 := iiE_size (s := 179) hσ_15 (by decide) 0
          have c21 := FC_at flσ_15 (c := (kE_size 179)) (by first | decide | (rcases hE with rfl | rfl | rfl <;> decide)) 0
          have c22 := iiE_size (s := 179) hσ_6 (by decide) 0
          refine wp_bd (s_J_layOut (σ := σ_15) (shape_0 := shape_0) (at_0 := at_3) (begin_0 := from_4) (part_0 := part_5) hσ_15 (by first | assumption | decide | omega) (ENa_f flσ_15 (by first | assumption | decide | omega) (NS_0 _) (ENa_f frσ_6 (by first | assumption | decide | omega) (NS_0 _) he)) (by (try dsimp only) <;> first | assumption | omega | ((try simp (disch := omega) only [w32_of, w64_of, w8_of]) <;> first | assumption | omega | (split <;> omega) | (refine And.intro ?_ ?_ <;> split <;> omega)) | omega) (by (try simp only [FC_plan (t := shape_0) frσ_15 (by first | assumption | decide | omega) (NS_0 _)]) <;> ((try dsimp only) <;> first | assumption | omega | ((try simp (disch := omega) only [w32_of, w64_of, w8_of]) <;> first | assumption | omega | (split <;> omega) | (refine And.intro ?_ ?_ <;> split <;> omega)) | omega)) (by (try dsimp only) <;> first | assumption | omega | ((try simp (disch := omega) only [w32_of, w64_of, w8_of]) <;> first | assumption | omega | (split <;> omega) | (refine And.intro ?_ ?_ <;> split <;> omega)) | omega) (by (try simp only [FC_plan (t := shape_0) frσ_15 (by first | assumption | decide | omega) (NS_0 _)]) <;> (exact hrk (by omega))) (by (try dsimp only) <;> first | assumption | omega | ((try simp (disch := omega) only [w32_of, w64_of, w8_of]) <;> first | assumption | omega | (split <;> omega) | (refine And.intro ?_ ?_ <;> split <;> omega)) | omega)) ?_
          rintro σ_23 - ⟨hσ_23, flσ_23, g23⟩
          have frσ_23 : FC [46080, 46336, 46592, 46848, 47104, (kE_placeX 179), (kE_placeY 179), (kE_size 179), kJ_joined, kJ_number, kJ_partBegin, kJ_partEnd, kJ_place, kJ_ringBegin, kJ_ringEnd, kJ_ringNumber, kJ_ringPart, kJ_rings] [] σ σ_23 := FC_tr frσ_15 flσ_23 (by first | decide | (rcases hE with rfl | rfl | rfl <;> decide)) (by first | decide | (rcases hE with rfl | rfl | rfl <;> decide)) (by simp) (by simp)
          try simp only [FC_plan (t := shape_0) frσ_15 (by first | assumption | decide | omega) (NS_0 _)] at g23
          have c24 := iiE_size (s := 179) hσ_23 (by decide) 0
          try simp (disch := omega) only [w32_of, w64_of, w8_of] at g23
          refine wp_bd (s_J_pairsFault (σ := σ_23) (part_0 := part_5) hσ_23 (by (try dsimp only) <;> first | assumption | omega | ((try simp (disch := omega) only [w32_of, w64_of, w8_of]) <;> first | assumption | omega | (split <;> omega) | (refine And.intro ?_ ?_ <;> split <;> omega)) | omega)) ?_
          rintro ⟨x_26, σ_25⟩ - y26
          try dsimp only at y26 ⊢
          obtain ⟨hσ_25, flσ_25, g25⟩ := y26
          have frσ_25 : FC [46080, 46336, 46592, 46848, 47104, (kE_placeX 179), (kE_placeY 179), (kE_size 179), kJ_joined, kJ_number, kJ_partBegin, kJ_partEnd, kJ_place, kJ_ringBegin, kJ_ringEnd, kJ_ringNumber, kJ_ringPart, kJ_rings] [] σ σ_25 := FC_tr frσ_23 flσ_25 (by first | decide | (rcases hE with rfl | rfl | rfl <;> decide)) (by first | decide | (rcases hE with rfl | rfl | rfl <;> decide)) (by simp) (by simp)
          try simp (disch := omega) only [w32_of, w64_of, w8_of] at g25
          have c27 := iiE_size (s := 179) hσ_25 (by decide) 0
          have c28 := FC_at flσ_25 (c := (kE_size 179)) (by first | decide | (rcases hE with rfl | rfl | rfl <;> decide)) 0
          exact wp_some ⟨(by (try dsimp only) <;> first | assumption | omega | ((try simp (disch := omega) only [w32_of, w64_of, w8_of]) <;> first | assumption | omega | (split <;> omega) | (refine And.intro ?_ ?_ <;> split <;> omega)) | omega), hσ_25, frσ_25, (by (try dsimp only) <;> first | assumption | omega | ((try simp (disch := omega) only [w32_of, w64_of, w8_of]) <;> first | assumption | omega | (split <;> omega) | (refine And.intro ?_ ?_ <;> split <;> omega)) | omega), (by (try dsimp only) <;> first | assumption | omega | ((try simp (disch := omega) only [w32_of, w64_of, w8_of]) <;> first | assumption | omega | (split <;> omega) | (refine And.intro ?_ ?_ <;> split <;> omega)) | omega)⟩
        · try simp (disch := omega) only [w32_of, w64_of, w8_of, decide_eq_true_eq, decide_eq_false_iff_not, Bool.not_eq_true] at c18
          have c29 := iiE_size (s := 179) hσ_15 (by decide) 0
          have c30 := FC_at flσ_15 (c := (kE_size 179)) (by first | decide | (rcases hE with rfl | rfl | rfl <;> decide)) 0
          have c31 := iiE_size (s := 179) hσ_6 (by decide) 0
          exact wp_some ⟨(by (try dsimp only) <;> first | assumption | omega | ((try simp (disch := omega) only [w32_of, w64_of, w8_of]) <;> first | assumption | omega | (split <;> omega) | (refine And.intro ?_ ?_ <;> split <;> omega)) | omega), hσ_15, frσ_15, (by (try dsimp only) <;> first | assumption | omega | ((try simp (disch := omega) only [w32_of, w64_of, w8_of]) <;> first | assumption | omega | (split <;> omega) | (refine And.intro ?_ ?_ <;> split <;> omega)) | omega), (by (try dsimp only) <;> first | assumption | omega | ((try simp (disch := omega) only [w32_of, w64_of, w8_of]) <;> first | assumption | omega | (split <;> omega) | (refine And.intro ?_ ?_ <;> split <;> omega)) | omega)⟩
      rintro ⟨fault_29, σ_30⟩ _ y35
      try dsimp only at y35 ⊢
      obtain ⟨g32, hσ_30, frσ_30, g33, g34⟩ := y35
      refine wp_bd (P := fun rr_ => (0 ≤ rr_.1 ∧ rr_.1 ≤ 15) ∧ II rr_.2 ∧ FC [46080, 46336, 46592, 46848, 47104, (kE_placeX 179), (kE_placeY 179), (kE_size 179), kJ_joined, kJ_number, kJ_partBegin, kJ_partEnd, kJ_place, kJ_ringBegin, kJ_ringEnd, kJ_ringNumber, kJ_ringPart, kJ_rings] [] σ rr_.2 ∧ (0 ≤ rr_.1 ∧ rr_.1 ≤ 15) ∧ (rr_.2 (kE_size 179) 0 ≤ from_4 + eP (σ (kA_plan shape_0)) at_3)) ?_ ?_
      · have c37 := w32_rng fault_29
        refine wp_if (fun c36 => ?_) (fun c36 => ?_)
        · try simp (disch := omega) only [w32_of, w64_of, w8_of, decide_eq_true_eq, decide_eq_false_iff_not, Bool.not_eq_true] at c36
          refine wp_bd (s_J_holesFault (σ := σ_30) (part_0 := part_5) hσ_30 (by (try dsimp only) <;> first | assumption | omega | ((try simp (disch := omega) only [w32_of, w64_of, w8_of]) <;> first | assumption | omega | (split <;> omega) | (refine And.intro ?_ ?_ <;> split <;> omega)) | omega)) ?_
          rintro ⟨x_38, σ_37⟩ - y39
          try dsimp only at y39 ⊢
          obtain ⟨hσ_37, flσ_37, g38⟩ := y39
          have frσ_37 : FC [46080, 46336, 46592, 46848, 47104, (kE_placeX 179), (kE_placeY 179), (kE_size 179), kJ_joined, kJ_number, kJ_partBegin, kJ_partEnd, kJ_place, kJ_ringBegin, kJ_ringEnd, kJ_ringNumber, kJ_ringPart, kJ_rings] [] σ σ_37 := FC_tr frσ_30 flσ_37 (by first | decide | (rcases hE with rfl | rfl | rfl <;> decide)) (by first | decide | (rcases hE with rfl | rfl | rfl <;> decide)) (by simp) (by simp)
          try simp (disch := omega) only [w32_of, w64_of, w8_of] at g38
          have c40 := iiE_size (s := 179) hσ_37 (by decide) 0
          have c41 := FC_at flσ_37 (c := (kE_size 179)) (by first | decide | (rcases hE with rfl | rfl | rfl <;> decide)) 0
          have c42 := iiE_size (s := 179) hσ_30 (by decide) 0
          exact wp_some ⟨(by (try dsimp only) <;> first | assumption | omega | ((try simp (disch := omega) only [w32_of, w64_of, w8_of]) <;> first | assumption | omega | (split <;> omega) | (refine And.intro ?_ ?_ <;> split <;> omega)) | omega), hσ_37, frσ_37, (by (try dsimp only) <;> first | assumption | omega | ((try simp (disch := omega) only [w32_of, w64_of, w8_of]) <;> first | assumption | omega | (split <;> omega) | (refine And.intro ?_ ?_ <;> split <;> omega)) | omega), (by (try dsimp only) <;> first | assumption | omega | ((try simp (disch := omega) only [w32_of, w64_of, w8_of]) <;> first | assumption | omega | (split <;> omega) | (refine And.intro ?_ ?_ <;> split <;> omega)) | omega)⟩
        · try simp (disch := omega) only [w32_of, w64_of, w8_of, decide_eq_true_eq, decide_eq_false_iff_not, Bool.not_eq_true] at c36
          have c43 := iiE_size (s := 179) hσ_30 (by decide) 0
          exact wp_some ⟨(by (try dsimp only) <;> first | assumption | omega | ((try simp (disch := omega) only [w32_of, w64_of, w8_of]) <;> first | assumption | omega | (split <;> omega) | (refine And.intro ?_ ?_ <;> split <;> omega)) | omega), hσ_30, frσ_30, (by (try dsimp only) <;> first | assumption | omega | ((try simp (disch := omega) only [w32_of, w64_of, w8_of]) <;> first | assumption | omega | (split <;> omega) | (refine And.intro ?_ ?_ <;> split <;> omega)) | omega), (by (try dsimp only) <;> first | assumption | omega | ((try simp (disch := omega) only [w32_of, w64_of, w8_of]) <;> first | assumption | omega | (split <;> omega) | (refine And.intro ?_ ?_ <;> split <;> omega)) | omega)⟩
      rintro ⟨fault_41, σ_42⟩ _ y47
      try dsimp only at y47 ⊢
      obtain ⟨g44, hσ_42, frσ_42, g45, g46⟩ := y47
      refine wp_bd (P := fun rr_ => (0 ≤ rr_.1 ∧ rr_.1 ≤ 15) ∧ II rr_.2 ∧ FC [46080, 46336, 46592, 46848, 47104, (kE_placeX 179), (kE_placeY 179), (kE_size 179), kJ_joined, kJ_number, kJ_partBegin, kJ_partEnd, kJ_place, kJ_ringBegin, kJ_ringEnd, kJ_ringNumber, kJ_ringPart, kJ_rings] [] σ rr_.2 ∧ (0 ≤ rr_.1 ∧ rr_.1 ≤ 15) ∧ (rr_.2 (kE_size 179) 0 ≤ from_4 + eP (σ (kA_plan shape_0)) at_3)) ?_ ?_
      · have c49 := w32_rng fault_41
        refine wp_if (fun c48 => ?_) (fun c48 => ?_)
        · try simp (disch := omega) only [w32_of, w64_of, w8_of, decide_eq_true_eq, decide_eq_false_iff_not, Bool.not_eq_true] at c48
          refine wp_bd (s_J_isSplit (σ := σ_42) (part_0 := part_5) hσ_42 (by (try dsimp only) <;> first | assumption | omega | ((try simp (disch := omega) only [w32_of, w64_of, w8_of]) <;> first | assumption | omega | (split <;> omega) | (refine And.intro ?_ ?_ <;> split <;> omega)) | omega)) ?_
          rintro ⟨x_59, σ_58⟩ - y50
          try dsimp only at y50 ⊢
          obtain ⟨hσ_58, flσ_58⟩ := y50
          have frσ_58 : FC [46080, 46336, 46592, 46848, 47104, (kE_placeX 179), (kE_placeY 179), (kE_size 179), kJ_joined, kJ_number, kJ_partBegin, kJ_partEnd, kJ_place, kJ_ringBegin, kJ_ringEnd, kJ_ringNumber, kJ_ringPart, kJ_rings] [] σ σ_58 := FC_tr frσ_42 flσ_58 (by first | decide | (rcases hE with rfl | rfl | rfl <;> decide)) (by first | decide | (rcases hE with rfl | rfl | rfl <;> decide)) (by simp) (by simp)
          refine wp_if (fun c51 => ?_) (fun c51 => ?_)
          · try simp (disch := omega) only [w32_of, w64_of, w8_of, decide_eq_true_eq, decide_eq_false_iff_not, Bool.not_eq_true] at c51
            refine wp_bd (s_J_tell (σ := σ_58) (fault_0 := 8) (part_0 := part_5) (ring_0 := (-1)) hσ_58 (by (try dsimp only) <;> first | assumption | omega | ((try simp (disch := omega) only [w32_of, w64_of, w8_of]) <;> first | assumption | omega | (split <;> omega) | (refine And.intro ?_ ?_ <;> split <;> omega)) | omega) (by (try dsimp only) <;> first | assumption | omega | ((try simp (disch := omega) only [w32_of, w64_of, w8_of]) <;> first | assumption | omega | (split <;> omega) | (refine And.intro ?_ ?_ <;> split <;> omega)) | omega)) ?_
            rintro ⟨x_63, σ_62⟩ - y53
            try dsimp only at y53 ⊢
            obtain ⟨hσ_62, flσ_62, g52⟩ := y53
            have frσ_62 : FC [46080, 46336, 46592, 46848, 47104, (kE_placeX 179), (kE_placeY 179), (kE_size 179), kJ_joined, kJ_number, kJ_partBegin, kJ_partEnd, kJ_place, kJ_ringBegin, kJ_ringEnd, kJ_ringNumber, kJ_ringPart, kJ_rings] [] σ σ_62 := FC_tr frσ_58 flσ_62 (by first | decide | (rcases hE with rfl | rfl | rfl <;> decide)) (by first | decide | (rcases hE with rfl | rfl | rfl <;> decide)) (by simp) (by simp)
            try simp (disch := omega) only [w32_of, w64_of, w8_of] at g52
            have c54 := iiE_size (s := 179) hσ_62 (by decide) 0
            have c55 := FC_at flσ_62 (c := (kE_size 179)) (by first | decide | (rcases hE with rfl | rfl | rfl <;> decide)) 0
            have c56 := iiE_size (s := 179) hσ_58 (by decide) 0
            have c57 := FC_at flσ_58 (c := (kE_size 179)) (by first | decide | (rcases hE with rfl | rfl | rfl <;> decide)) 0
            have c58 := iiE_size (s := 179) hσ_42 (by decide) 0
            exact wp_some ⟨(by (try dsimp only) <;> first | assumption | omega | ((try simp (disch := omega) only [w32_of, w64_of, w8_of]) <;> first | assumption | omega | (split <;> omega) | (refine And.intro ?_ ?_ <;> split <;> omega)) | omega), hσ_62, frσ_62, (by (try dsimp only) <;> first | assumption | omega | ((try simp (disch := omega) only [w32_of, w64_of, w8_of]) <;> first | assumption | omega | (split <;> omega) | (refine And.intro ?_ ?_ <;> split <;> omega)) | omega), (by (try dsimp only) <;> first | assumption | omega | ((try simp (disch := omega) only [w32_of, w64_of, w8_of]) <;> first | assumption | omega | (split <;> omega) | (refine And.intro ?_ ?_ <;> split <;> omega)) | omega)⟩
          · try simp (disch := omega) only [w32_of, w64_of, w8_of, decide_eq_true_eq, decide_eq_false_iff_not, Bool.not_eq_true] at c51
            have c59 := iiE_size (s := 179) hσ_58 (by decide) 0
            have c60 := FC_at flσ_58 (c := (kE_size 179)) (by first | decide | (rcases hE with rfl | rfl | rfl <;> decide)) 0
            have c61 := iiE_size (s := 179) hσ_42 (by decide) 0
            exact wp_some ⟨(by (try dsimp only) <;> first | assumption | omega | ((try simp (disch := omega) only [w32_of, w64_of, w8_of]) <;> first | assumption | omega | (split <;> omega) | (refine And.intro ?_ ?_ <;> split <;> omega)) | omega), hσ_58, frσ_58, (by (try dsimp only) <;> first | assumption | omega | ((try simp (disch := omega) only [w32_of, w64_of, w8_of]) <;> first | assumption | omega | (split <;> omega) | (refine And.intro ?_ ?_ <;> split <;> omega)) | omega), (by (try dsimp only) <;> first | assumption | omega | ((try simp (disch := omega) only [w32_of, w64_of, w8_of]) <;> first | assumption | omega | (split <;> omega) | (refine And.intro ?_ ?_ <;> split <;> omega)) | omega)⟩
        · try simp (disch := omega) only [w32_of, w64_of, w8_of, decide_eq_true_eq, decide_eq_false_iff_not, Bool.not_eq_true] at c48
          have c62 := iiE_size (s := 179) hσ_42 (by decide) 0
          exact wp_some ⟨(by (try dsimp only) <;> first | assumption | omega | ((try simp (disch := omega) only [w32_of, w64_of, w8_of]) <;> first | assumption | omega | (split <;> omega) | (refine And.intro ?_ ?_ <;> split <;> omega)) | omega), hσ_42, frσ_42, (by (try dsimp only) <;> first | assumption | omega | ((try simp (disch := omega) only [w32_of, w64_of, w8_of]) <;> first | assumption | omega | (split <;> omega) | (refine And.intro ?_ ?_ <;> split <;> omega)) | omega), (by (try dsimp only) <;> first | assumption | omega | ((try simp (disch := omega) only [w32_of, w64_of, w8_of]) <;> first | assumption | omega | (split <;> omega) | (refine And.intro ?_ ?_ <;> split <;> omega)) | omega)⟩
      rintro ⟨fault_67, σ_68⟩ _ y66
      try dsimp only at y66 ⊢
      obtain ⟨g63, hσ_68, frσ_68, g64, g65⟩ := y66
      have c68 := w32_rng fault_67
      refine wp_if (fun c67 => ?_) (fun c67 => ?_)
      · try simp (disch := omega) only [w32_of, w64_of, w8_of, decide_eq_true_eq, decide_eq_false_iff_not, Bool.not_eq_true] at c67
        exact wp_some (x_inr (x_inr ⟨hσ_68, frσ_68, (by (try dsimp only) <;> first | assumption | omega | ((try simp (disch := omega) only [w32_of, w64_of, w8_of]) <;> first | assumption | omega | (split <;> omega) | (refine And.intro ?_ ?_ <;> split <;> omega)) | omega)⟩))
      · try simp (disch := omega) only [w32_of, w64_of, w8_of, decide_eq_true_eq, decide_eq_false_iff_not, Bool.not_eq_true] at c67
        refine wp_bd (s_A_pointsAt (σ := σ_68) (this_0 := shape_0) (at_0 := at_3) hσ_68 (by first | assumption | decide | omega) (ENa_f frσ_68 (by first | assumption | decide | omega) (NS_0 _) he)) ?_
        rintro x_71 - hpa
        try simp only [FC_plan (t := shape_0) frσ_68 (by first | assumption | decide | omega) (NS_0 _)] at hpa
        try simp (disch := omega) only [w32_of, w64_of, w8_of] at hpa
        refine wp_bd (s_A_behind (σ := σ_68) (this_0 := shape_0) (at_0 := at_3) hσ_68 (by first | assumption | decide | omega) (ENa_f frσ_68 (by first | assumption | decide | omega) (NS_0 _) he)) ?_
        rintro x_73 - hbh
        try simp only [FC_plan (t := shape_0) frσ_68 (by first | assumption | decide | omega) (NS_0 _)] at hbh
        try simp (disch := omega) only [w32_of, w64_of, w8_of] at hbh
        have c69 := iiE_size (s := 179) hσ_68 (by decide) 0
        exact wp_some (x_inl ⟨⟨hσ_68, frσ_68, (by (try dsimp only) <;> (first | assumption | exact w0 | (rw [hbh, hpa]; exact hn))), (by (try dsimp only) <;> first | assumption | omega | ((try simp (disch := omega) only [w32_of, w64_of, w8_of]) <;> first | assumption | omega | (split <;> omega) | (refine And.intro ?_ ?_ <;> split <;> omega)) | omega), (by (try dsimp only) <;> first | assumption | omega | ((try simp (disch := omega) only [w32_of, w64_of, w8_of]) <;> first | assumption | omega | (split <;> omega) | (refine And.intro ?_ ?_ <;> split <;> omega)) | omega), (by (try dsimp only) <;> first | assumption | omega | ((try simp (disch := omega) only [w32_of, w64_of, w8_of]) <;> first | assumption | omega | (split <;> omega) | (refine And.intro ?_ ?_ <;> split <;> omega)) | omega)⟩, (by (try dsimp only) <;> first | assumption | omega | ((try simp (disch := omega) only [w32_of, w64_of, w8_of]) <;> first | assumption | omega | (split <;> omega) | (refine And.intro ?_ ?_ <;> split <;> omega)) | omega)⟩)
    · try simp (disch := omega) only [w32_of, w64_of, w8_of, decide_eq_true_eq, decide_eq_false_iff_not, Bool.not_eq_true] at c9
      exact wp_some (x_inr (x_inl ⟨hσ_6, frσ_6⟩))
  rintro ⟨at_86, from_87, part_88, σ_89⟩ y70
  try dsimp only at y70 ⊢
  obtain ⟨hσ_89, frσ_89⟩ := y70
  refine wp_bd (s_J_partPairsFault (σ := σ_89) (parts_0 := parts_0) hσ_89 (by (try dsimp only) <;> first | assumption | omega | ((try simp (disch := omega) only [w32_of, w64_of, w8_of]) <;> first | assumption | omega | (split <;> omega) | (refine And.intro ?_ ?_ <;> split <;> omega)) | omega)) ?_
  rintro ⟨x_92, σ_91⟩ - y72
  try dsimp only at y72 ⊢
  obtain ⟨hσ_91, flσ_91, g71⟩ := y72
  have frσ_91 : FC [46080, 46336, 46592, 46848, 47104, (kE_placeX 179), (kE_placeY 179), (kE_size 179), kJ_joined, kJ_number, kJ_partBegin, kJ_partEnd, kJ_place, kJ_ringBegin, kJ_ringEnd, kJ_ringNumber, kJ_ringPart, kJ_rings] [] σ σ_91 := FC_tr frσ_89 flσ_91 (by first | decide | (rcases hE with rfl | rfl | rfl <;> decide)) (by first | decide | (rcases hE with rfl | rfl | rfl <;> decide)) (by simp) (by simp)
  try simp (disch := omega) only [w32_of, w64_of, w8_of] at g71
  exact wp_some ⟨hσ_91, frσ_91, (by (try dsimp only) <;> first | assumption | omega | ((try simp (disch := omega) only [w32_of, w64_of, w8_of]) <;> first | assumption | omega | (split <;> omega) | (refine And.intro ?_ ?_ <;> split <;> omega)) | omega)⟩
theorem s_J_firstFault {σ : SG} {shape_0 : Nat} (hσ : II σ) (hs_shape_0 : isS shape_0) (w0 : SHa σ shape_0) : wp_ (fJ_firstFault σ shape_0) (fun zz_ => II zz_.2 ∧ FC [46080, 46336, 46592, 46848, 47104, (kE_size 179), (kE_placeX 179), (kE_placeY 179), kJ_joined, kJ_number, kJ_partBegin, kJ_partEnd, kJ_place, kJ_ringBegin, kJ_ringEnd, kJ_ringNumber, kJ_ringPart, kJ_rings] [] σ zz_.2 ∧ (0 ≤ zz_.1 ∧ zz_.1 ≤ 15)) := by
  unfold fJ_firstFault
  have hpl := iiA_plans hσ hs_shape_0 0
  have hpt := iiA_points hσ hs_shape_0 0
  refine wp_bd (v_fillI (σ := σ) (a_0 := 178) (a_n := 7) (val_0 := (-1)) hσ (by decide) (by rw [show (178 * 256 : Nat) = kJ_place from rfl, b_kJ_place]; exact ⟨by decide, by decide⟩) (by decide)) ?_
  rintro σ_2 - ⟨hσ_2, flσ_2, g1⟩
  have frσ_2 : FC [46080, 46336, 46592, 46848, 47104, (kE_size 179), (kE_placeX 179), (kE_placeY 179), kJ_joined, kJ_number, kJ_partBegin, kJ_partEnd, kJ_place, kJ_ringBegin, kJ_ringEnd, kJ_ringNumber, kJ_ringPart, kJ_rings] [] σ σ_2 := FC_le flσ_2 (by first | decide | (rcases hE with rfl | rfl | rfl <;> decide)) (by simp)
  try simp (disch := omega) only [w32_of, w64_of, w8_of] at g1
  refine wp_bx (P := fun rr_ => II rr_.2.2.2.2 ∧ FC [46080, 46336, 46592, 46848, 47104, (kE_size 179), (kE_placeX 179), (kE_placeY 179), kJ_joined, kJ_number, kJ_partBegin, kJ_partEnd, kJ_place, kJ_ringBegin, kJ_ringEnd, kJ_ringNumber, kJ_ringPart, kJ_rings] [] σ rr_.2.2.2.2) ?_ ?_
  · refine wp_whl (fun ss_ => II ss_.2.2.2.2 ∧ FC [46080, 46336, 46592, 46848, 47104, (kE_size 179), (kE_placeX 179), (kE_placeY 179), kJ_joined, kJ_number, kJ_partBegin, kJ_partEnd, kJ_place, kJ_ringBegin, kJ_ringEnd, kJ_ringNumber, kJ_ringPart, kJ_rings] [] σ ss_.2.2.2.2 ∧ (FLa σ shape_0 ss_.2.2.2.1 ss_.1) ∧ (0 ≤ ss_.2.1) ∧ (2 * ss_.2.1 ≤ ss_.2.2.2.1)) (fun ss_ => (2048 - ss_.2.2.2.1).toNat) ⟨hσ_2, frσ_2, (by (try dsimp only) <;> (first | assumption | exact FLa_0 w0 | (rw [hbh, hpa]; exact hn))), (by (try dsimp only) <;> first | assumption | omega | ((try simp (disch := omega) only [w32_of, w64_of, w8_of]) <;> first | assumption | omega | (split <;> omega) | (refine And.intro ?_ ?_ <;> split <;> omega)) | omega), (by (try dsimp only) <;> first | assumption | omega | ((try simp (disch := omega) only [w32_of, w64_of, w8_of]) <;> first | assumption | omega | (split <;> omega) | (refine And.intro ?_ ?_ <;> split <;> omega)) | omega)⟩ ?_
    rintro ⟨from_3, number_4, judged_5, at_6, σ_7⟩ y4
    try dsimp only at y4 ⊢
    obtain ⟨hσ_7, frσ_7, gw, g2, g3⟩ := y4
    have hle := FLa_le gw
    have c6 := w32_rng (at_6 + 1)
    have c7 := iiA_plans (s := shape_0) hσ_7 (by first | assumption | decide | omega) 0
    have c8 := congrFun (FC_plans (t := shape_0) frσ_7 (by first | assumption | decide | omega) (NS_0 _)) 0
    have c9 := iiA_plans (s := shape_0) hσ (by first | assumption | decide | omega) 0
    have c10 := w32_rng (σ_7 (kA_plans shape_0) 0)
    refine wp_if (fun c5 => ?_) (fun c5 => ?_)
    · try simp (disch := omega) only [w32_of, w64_of, w8_of, decide_eq_true_eq, decide_eq_false_iff_not, Bool.not_eq_true] at c5
      obtain ⟨he, hn, h2, h3, h4, h5, h6⟩ := FLa_hd hσ hs_shape_0 gw (by omega)
      obtain ⟨ho, -, -, -⟩ := id he
      have c11 := w32_rng at_6
      refine wp_rdI (by (try dsimp only) <;> first | assumption | omega | ((try simp (disch := omega) only [w32_of, w64_of, w8_of]) <;> first | assumption | omega | (split <;> omega) | (refine And.intro ?_ ?_ <;> split <;> omega)) | omega) (by (try dsimp only) <;> first | assumption | omega | ((try simp (disch := omega) only [w32_of, w64_of, w8_of]) <;> first | assumption | omega | (split <;> omega) | (refine And.intro ?_ ?_ <;> split <;> omega)) | omega) (fun x_16 e_x_16 => ?_)
      rw [FC_plan (t := shape_0) frσ_7 (by first | assumption | decide | omega) (NS_0 _)] at e_x_16
      try simp (disch := omega) only [w32_of, w64_of, w8_of] at e_x_16
      have c12 := congrFun (FC_plan (t := shape_0) frσ_7 (by first | assumption | decide | omega) (NS_0 _)) at_6
      refine wp_bd (P := fun rr_ => (0 ≤ rr_.2.1 ∧ rr_.2.1 ≤ 15) ∧ II rr_.2.2 ∧ FC [46080, 46336, 46592, 46848, 47104, (kE_size 179), (kE_placeX 179), (kE_placeY 179), kJ_joined, kJ_number, kJ_partBegin, kJ_partEnd, kJ_place, kJ_ringBegin, kJ_ringEnd, kJ_ringNumber, kJ_ringPart, kJ_rings] [] σ rr_.2.2 ∧ (0 ≤ rr_.2.1 ∧ rr_.2.1 ≤ 15)) ?_ ?_
      · have c14 := w32_rng x_16
        refine wp_if (fun c13 => ?_) (fun c13 => ?_)
        · try simp (disch := omega) only [w32_of, w64_of, w8_of, decide_eq_true_eq, decide_eq_false_iff_not, Bool.not_eq_true] at c13
          have epl := ep_l (show σ (kA_plan shape_0) at_6 < 3 by omega)
          refine wp_bd (P := fun rr_ => (0 ≤ rr_ ∧ rr_ ≤ 2) ∧ (0 ≤ rr_ ∧ rr_ ≤ 2)) ?_ ?_
          · refine wp_rdI (by (try dsimp only) <;> first | assumption | omega | ((try simp (disch := omega) only [w32_of, w64_of, w8_of]) <;> first | assumption | omega | (split <;> omega) | (refine And.intro ?_ ?_ <;> split <;> omega)) | omega) (by (try dsimp only) <;> first | assumption | omega | ((try simp (disch := omega) only [w32_of, w64_of, w8_of]) <;> first | assumption | omega | (split <;> omega) | (refine And.intro ?_ ?_ <;> split <;> omega)) | omega) (fun x_23 e_x_23 => ?_)
            rw [FC_plan (t := shape_0) frσ_7 (by first | assumption | decide | omega) (NS_0 _)] at e_x_23
            try simp (disch := omega) only [w32_of, w64_of, w8_of] at e_x_23
            have c15 := congrFun (FC_plan (t := shape_0) frσ_7 (by first | assumption | decide | omega) (NS_0 _)) (at_6 + 1)
            refine wp_bd (s_J_isOfOnePlace (σ := σ_7) (shape_0 := shape_0) (from_0 := from_3) (length_0 := x_23) hσ_7 (by first | assumption | decide | omega) (by (try dsimp only) <;> first | assumption | omega | ((try simp (disch := omega) only [w32_of, w64_of, w8_of]) <;> first | assumption | omega | (split <;> omega) | (refine And.intro ?_ ?_ <;> split <;> omega)) | omega) (by (try dsimp only) <;> first | assumption | omega | ((try simp (disch := omega) only [w32_of, w64_of, w8_of]) <;> first | assumption | omega | (split <;> omega) | (refine And.intro ?_ ?_ <;> split <;> omega)) | omega)) ?_
            rintro x_26 - -
            refine wp_if (fun c17 => ?_) (fun c17 => ?_)
            · try simp (disch := omega) only [w32_of, w64_of, w8_of, decide_eq_true_eq, decide_eq_false_iff_not, Bool.not_eq_true] at c17
              exact wp_some ⟨(by (try dsimp only) <;> first | assumption | omega | ((try simp (disch := omega) only [w32_of, w64_of, w8_of]) <;> first | assumption | omega | (split <;> omega) | (refine And.intro ?_ ?_ <;> split <;> omega)) | omega), (by (try dsimp only) <;> first | assumption | omega | ((try simp (disch := omega) only [w32_of, w64_of, w8_of]) <;> first | assumption | omega | (split <;> omega) | (refine And.intro ?_ ?_ <;> split <;> omega)) | omega)⟩
            · try simp (disch := omega) only [w32_of, w64_of, w8_of, decide_eq_true_eq, decide_eq_false_iff_not, Bool.not_eq_true] at c17
              exact wp_some ⟨(by (try dsimp only) <;> first | assumption | omega | ((try simp (disch := omega) only [w32_of, w64_of, w8_of]) <;> first | assumption | omega | (split <;> omega) | (refine And.intro ?_ ?_ <;> split <;> omega)) | omega), (by (try dsimp only) <;> first | assumption | omega | ((try simp (disch := omega) only [w32_of, w64_of, w8_of]) <;> first | assumption | omega | (split <;> omega) | (refine And.intro ?_ ?_ <;> split <;> omega)) | omega)⟩
          rintro x_30 _ ⟨g18, g19⟩
          exact wp_some ⟨(by (try dsimp only) <;> first | assumption | omega | ((try simp (disch := omega) only [w32_of, w64_of, w8_of]) <;> first | assumption | omega | (split <;> omega) | (refine And.intro ?_ ?_ <;> split <;> omega)) | omega), hσ_7, frσ_7, (by (try dsimp only) <;> first | assumption | omega | ((try simp (disch := omega) only [w32_of, w64_of, w8_of]) <;> first | assumption | omega | (split <;> omega) | (refine And.intro ?_ ?_ <;> split <;> omega)) | omega)⟩
        · try simp (disch := omega) only [w32_of, w64_of, w8_of, decide_eq_true_eq, decide_eq_false_iff_not, Bool.not_eq_true] at c13
          refine wp_bd (P := fun rr_ => (0 ≤ rr_.2.1 ∧ rr_.2.1 ≤ 15) ∧ II rr_.2.2 ∧ FC [46080, 46336, 46592, 46848, 47104, (kE_size 179), (kE_placeX 179), (kE_placeY 179), kJ_joined, kJ_number, kJ_partBegin, kJ_partEnd, kJ_place, kJ_ringBegin, kJ_ringEnd, kJ_ringNumber, kJ_ringPart, kJ_rings] [] σ rr_.2.2 ∧ (0 ≤ rr_.2.1 ∧ rr_.2.1 ≤ 15)) ?_ ?_
          · refine wp_if (fun c20 => ?_) (fun c20 => ?_)
            · try simp (disch := omega) only [w32_of, w64_of, w8_of, decide_eq_true_eq, decide_eq_false_iff_not, Bool.not_eq_true] at c20
              have el6 := el_n (show ¬ σ (kA_plan shape_0) at_6 = 3 by omega)
              have ep6 := ep_g (show 3 < σ (kA_plan shape_0) at_6 by omega)
              have hn6 := hn
              rw [el6, ep6, Int.add_zero] at hn6
              refine wp_rdI (by (try dsimp only) <;> first | assumption | omega | ((try simp (disch := omega) only [w32_of, w64_of, w8_of]) <;> first | assumption | omega | (split <;> omega) | (refine And.intro ?_ ?_ <;> split <;> omega)) | omega) (by (try dsimp only) <;> first | assumption | omega | ((try simp (disch := omega) only [w32_of, w64_of, w8_of]) <;> first | assumption | omega | (split <;> omega) | (refine And.intro ?_ ?_ <;> split <;> omega)) | omega) (fun x_41 e_x_41 => ?_)
              rw [FC_plan (t := shape_0) frσ_7 (by first | assumption | decide | omega) (NS_0 _)] at e_x_41
              try simp (disch := omega) only [w32_of, w64_of, w8_of] at e_x_41
              have c21 := congrFun (FC_plan (t := shape_0) frσ_7 (by first | assumption | decide | omega) (NS_0 _)) (at_6 + 1)
              refine wp_bd (s_J_polygonsFault (σ := σ_7) (shape_0 := shape_0) (first_0 := (at_6 + 2)) (begin_0 := from_3) (parts_0 := x_41) hσ_7 (by first | assumption | decide | omega) (FLa_f frσ_7 (by first | assumption | decide | omega) (NS_0 _) hn6) (by (try dsimp only) <;> first | assumption | omega | ((try simp (disch := omega) only [w32_of, w64_of, w8_of]) <;> first | assumption | omega | (split <;> omega) | (refine And.intro ?_ ?_ <;> split <;> omega)) | omega)) ?_
              rintro ⟨x_45, σ_44⟩ - y23
              try dsimp only at y23 ⊢
              obtain ⟨hσ_44, flσ_44, g22⟩ := y23
              have frσ_44 : FC [46080, 46336, 46592, 46848, 47104, (kE_size 179), (kE_placeX 179), (kE_placeY 179), kJ_joined, kJ_number, kJ_partBegin, kJ_partEnd, kJ_place, kJ_ringBegin, kJ_ringEnd, kJ_ringNumber, kJ_ringPart, kJ_rings] [] σ σ_44 := FC_tr frσ_7 flσ_44 (by first | decide | (rcases hE with rfl | rfl | rfl <;> decide)) (by first | decide | (rcases hE with rfl | rfl | rfl <;> decide)) (by simp) (by simp)
              try simp (disch := omega) only [w32_of, w64_of, w8_of] at g22
              refine wp_bd (P := fun rr_ => (0 ≤ rr_.1 ∧ rr_.1 ≤ 15) ∧ II rr_.2 ∧ FC [46080, 46336, 46592, 46848, 47104, (kE_size 179), (kE_placeX 179), (kE_placeY 179), kJ_joined, kJ_number, kJ_partBegin, kJ_partEnd, kJ_place, kJ_ringBegin, kJ_ringEnd, kJ_ringNumber, kJ_ringPart, kJ_rings] [] σ rr_.2 ∧ (0 ≤ rr_.1 ∧ rr_.1 ≤ 15)) ?_ ?_
              · have c25 := w32_rng x_45
                refine wp_if (fun c24 => ?_) (fun c24 => ?_)
                · try simp (disch := omega) only [w32_of, w64_of, w8_of, decide_eq_true_eq, decide_eq_false_iff_not, Bool.not_eq_true] at c24
                  exact wp_some ⟨(by (try dsimp only) <;> first | assumption | omega | ((try simp (disch := omega) only [w32_of, w64_of, w8_of]) <;> first | assumption | omega | (split <;> omega) | (refine And.intro ?_ ?_ <;> split <;> omega)) | omega), hσ_44, frσ_44, (by (try dsimp only) <;> first | assumption | omega | ((try simp (disch := omega) only [w32_of, w64_of, w8_of]) <;> first | assumption | omega | (split <;> omega) | (refine And.intro ?_ ?_ <;> split <;> omega)) | omega)⟩
                · try simp (disch := omega) only [w32_of, w64_of, w8_of, decide_eq_true_eq, decide_eq_false_iff_not, Bool.not_eq_true] at c24
                  refine wp_bd (s_J_innerFault (σ := σ_44) (parts_0 := x_41) hσ_44 (by (try dsimp only) <;> first | assumption | omega | ((try simp (disch := omega) only [w32_of, w64_of, w8_of]) <;> first | assumption | omega | (split <;> omega) | (refine And.intro ?_ ?_ <;> split <;> omega)) | omega)) ?_
                  rintro ⟨x_53, σ_52⟩ - y27
                  try dsimp only at y27 ⊢
                  obtain ⟨hσ_52, flσ_52, g26⟩ := y27
                  have frσ_52 : FC [46080, 46336, 46592, 46848, 47104, (kE_size 179), (kE_placeX 179), (kE_placeY 179), kJ_joined, kJ_number, kJ_partBegin, kJ_partEnd, kJ_place, kJ_ringBegin, kJ_ringEnd, kJ_ringNumber, kJ_ringPart, kJ_rings] [] σ σ_52 := FC_tr frσ_44 flσ_52 (by first | decide | (rcases hE with rfl | rfl | rfl <;> decide)) (by first | decide | (rcases hE with rfl | rfl | rfl <;> decide)) (by simp) (by simp)
                  try simp (disch := omega) only [w32_of, w64_of, w8_of] at g26
                  exact wp_some ⟨(by (try dsimp only) <;> first | assumption | omega | ((try simp (disch := omega) only [w32_of, w64_of, w8_of]) <;> first | assumption | omega | (split <;> omega) | (refine And.intro ?_ ?_ <;> split <;> omega)) | omega), hσ_52, frσ_52, (by (try dsimp only) <;> first | assumption | omega | ((try simp (disch := omega) only [w32_of, w64_of, w8_of]) <;> first | assumption | omega | (split <;> omega) | (refine And.intro ?_ ?_ <;> split <;> omega)) | omega)⟩
              rintro ⟨x_55, σ_56⟩ _ y30
              try dsimp only at y30 ⊢
              obtain ⟨g28, hσ_56, frσ_56, g29⟩ := y30
              exact wp_some ⟨(by (try dsimp only) <;> first | assumption | omega | ((try simp (disch := omega) only [w32_of, w64_of, w8_of]) <;> first | assumption | omega | (split <;> omega) | (refine And.intro ?_ ?_ <;> split <;> omega)) | omega), hσ_56, frσ_56, (by (try dsimp only) <;> first | assumption | omega | ((try simp (disch := omega) only [w32_of, w64_of, w8_of]) <;> first | assumption | omega | (split <;> omega) | (refine And.intro ?_ ?_ <;> split <;> omega)) | omega)⟩
            · try simp (disch := omega) only [w32_of, w64_of, w8_of, decide_eq_true_eq, decide_eq_false_iff_not, Bool.not_eq_true] at c20
              refine wp_bd (P := fun rr_ => (0 ≤ rr_.2.1 ∧ rr_.2.1 ≤ 15) ∧ II rr_.2.2 ∧ FC [46080, 46336, 46592, 46848, 47104, (kE_size 179), (kE_placeX 179), (kE_placeY 179), kJ_joined, kJ_number, kJ_partBegin, kJ_partEnd, kJ_place, kJ_ringBegin, kJ_ringEnd, kJ_ringNumber, kJ_ringPart, kJ_rings] [] σ rr_.2.2 ∧ (0 ≤ rr_.2.1 ∧ rr_.2.1 ≤ 15)) ?_ ?_
              · have c32 := w32_rng judged_5
                refine wp_if (fun c31 => ?_) (fun c31 => ?_)
                · try simp (disch := omega) only [w32_of, w64_of, w8_of, decide_eq_true_eq, decide_eq_false_iff_not, Bool.not_eq_true] at c31
                  exact wp_some ⟨(by (try dsimp only) <;> first | assumption | omega | ((try simp (disch := omega) only [w32_of, w64_of, w8_of]) <;> first | assumption | omega | (split <;> omega) | (refine And.intro ?_ ?_ <;> split <;> omega)) | omega), hσ_7, frσ_7, (by (try dsimp only) <;> first | assumption | omega | ((try simp (disch := omega) only [w32_of, w64_of, w8_of]) <;> first | assumption | omega | (split <;> omega) | (refine And.intro ?_ ?_ <;> split <;> omega)) | omega)⟩
                · try simp (disch := omega) only [w32_of, w64_of, w8_of, decide_eq_true_eq, decide_eq_false_iff_not, Bool.not_eq_true] at c31
                  refine wp_bd (P := fun rr_ => (0 ≤ rr_.1 ∧ rr_.1 ≤ 15) ∧ II rr_.2 ∧ FC [46080, 46336, 46592, 46848, 47104, (kE_size 179), (kE_placeX 179), (kE_placeY 179), kJ_joined, kJ_number, kJ_partBegin, kJ_partEnd, kJ_place, kJ_ringBegin, kJ_ringEnd, kJ_ringNumber, kJ_ringPart, kJ_rings] [] σ rr_.2 ∧ (0 ≤ rr_.1 ∧ rr_.1 ≤ 15)) ?_ ?_
                  · refine wp_if (fun c33 => ?_) (fun c33 => ?_)
                    · try simp (disch := omega) only [w32_of, w64_of, w8_of, decide_eq_true_eq, decide_eq_false_iff_not, Bool.not_eq_true] at c33
                      refine wp_bd (s_J_polygonsFault (σ := σ_7) (shape_0 := shape_0) (first_0 := at_6) (begin_0 := from_3) (parts_0 := 1) hσ_7 (by first | assumption | decide | omega) (FLa_f frσ_7 (by first | assumption | decide | omega) (NS_0 _) gw) (by (try dsimp only) <;> first | assumption | omega | ((try simp (disch := omega) only [w32_of, w64_of, w8_of]) <;> first | assumption | omega | (split <;> omega) | (refine And.intro ?_ ?_ <;> split <;> omega)) | omega)) ?_
                      rintro ⟨x_74, σ_73⟩ - y35
                      try dsimp only at y35 ⊢
                      obtain ⟨hσ_73, flσ_73, g34⟩ := y35
                      have frσ_73 : FC [46080, 46336, 46592, 46848, 47104, (kE_size 179), (kE_placeX 179), (kE_placeY 179), kJ_joined, kJ_number, kJ_partBegin, kJ_partEnd, kJ_place, kJ_ringBegin, kJ_ringEnd, kJ_ringNumber, kJ_ringPart, kJ_rings] [] σ σ_73 := FC_tr frσ_7 flσ_73 (by first | decide | (rcases hE with rfl | rfl | rfl <;> decide)) (by first | decide | (rcases hE with rfl | rfl | rfl <;> decide)) (by simp) (by simp)
                      try simp (disch := omega) only [w32_of, w64_of, w8_of] at g34
                      exact wp_some ⟨(by (try dsimp only) <;> first | assumption | omega | ((try simp (disch := omega) only [w32_of, w64_of, w8_of]) <;> first | assumption | omega | (split <;> omega) | (refine And.intro ?_ ?_ <;> split <;> omega)) | omega), hσ_73, frσ_73, (by (try dsimp only) <;> first | assumption | omega | ((try simp (disch := omega) only [w32_of, w64_of, w8_of]) <;> first | assumption | omega | (split <;> omega) | (refine And.intro ?_ ?_ <;> split <;> omega)) | omega)⟩
                    · try simp (disch := omega) only [w32_of, w64_of, w8_of, decide_eq_true_eq, decide_eq_false_iff_not, Bool.not_eq_true] at c33
                      exact wp_some ⟨(by (try dsimp only) <;> first | assumption | omega | ((try simp (disch := omega) only [w32_of, w64_of, w8_of]) <;> first | assumption | omega | (split <;> omega) | (refine And.intro ?_ ?_ <;> split <;> omega)) | omega), hσ_7, frσ_7, (by (try dsimp only) <;> first | assumption | omega | ((try simp (disch := omega) only [w32_of, w64_of, w8_of]) <;> first | assumption | omega | (split <;> omega) | (refine And.intro ?_ ?_ <;> split <;> omega)) | omega)⟩
                  rintro ⟨fault_77, σ_78⟩ _ y38
                  try dsimp only at y38 ⊢
                  obtain ⟨g36, hσ_78, frσ_78, g37⟩ := y38
                  exact wp_some ⟨(by (try dsimp only) <;> first | assumption | omega | ((try simp (disch := omega) only [w32_of, w64_of, w8_of]) <;> first | assumption | omega | (split <;> omega) | (refine And.intro ?_ ?_ <;> split <;> omega)) | omega), hσ_78, frσ_78, (by (try dsimp only) <;> first | assumption | omega | ((try simp (disch := omega) only [w32_of, w64_of, w8_of]) <;> first | assumption | omega | (split <;> omega) | (refine And.intro ?_ ?_ <;> split <;> omega)) | omega)⟩
              rintro ⟨judged_88, fault_89, σ_90⟩ _ y41
              try dsimp only at y41 ⊢
              obtain ⟨g39, hσ_90, frσ_90, g40⟩ := y41
              exact wp_some ⟨(by (try dsimp only) <;> first | assumption | omega | ((try simp (disch := omega) only [w32_of, w64_of, w8_of]) <;> first | assumption | omega | (split <;> omega) | (refine And.intro ?_ ?_ <;> split <;> omega)) | omega), hσ_90, frσ_90, (by (try dsimp only) <;> first | assumption | omega | ((try simp (disch := omega) only [w32_of, w64_of, w8_of]) <;> first | assumption | omega | (split <;> omega) | (refine And.intro ?_ ?_ <;> split <;> omega)) | omega)⟩
          rintro ⟨judged_93, fault_94, σ_95⟩ _ y44
          try dsimp only at y44 ⊢
          obtain ⟨g42, hσ_95, frσ_95, g43⟩ := y44
          exact wp_some ⟨(by (try dsimp only) <;> first | assumption | omega | ((try simp (disch := omega) only [w32_of, w64_of, w8_of]) <;> first | assumption | omega | (split <;> omega) | (refine And.intro ?_ ?_ <;> split <;> omega)) | omega), hσ_95, frσ_95, (by (try dsimp only) <;> first | assumption | omega | ((try simp (disch := omega) only [w32_of, w64_of, w8_of]) <;> first | assumption | omega | (split <;> omega) | (refine And.intro ?_ ?_ <;> split <;> omega)) | omega)⟩
      rintro ⟨judged_98, fault_99, σ_100⟩ _ y47
      try dsimp only at y47 ⊢
      obtain ⟨g45, hσ_100, frσ_100, g46⟩ := y47
      have c49 := w32_rng fault_99
      refine wp_if (fun c48 => ?_) (fun c48 => ?_)
      · try simp (disch := omega) only [w32_of, w64_of, w8_of, decide_eq_true_eq, decide_eq_false_iff_not, Bool.not_eq_true] at c48
        refine wp_waI hσ_100 b_kJ_place (by (try dsimp only) <;> first | assumption | omega | ((try simp (disch := omega) only [w32_of, w64_of, w8_of]) <;> first | assumption | omega | (split <;> omega) | (refine And.intro ?_ ?_ <;> split <;> omega)) | omega) (by (try dsimp only) <;> first | assumption | omega | ((try simp (disch := omega) only [w32_of, w64_of, w8_of]) <;> first | assumption | omega | (split <;> omega) | (refine And.intro ?_ ?_ <;> split <;> omega)) | omega) (by (try dsimp only) <;> first | assumption | omega | ((try simp (disch := omega) only [w32_of, w64_of, w8_of]) <;> first | assumption | omega | (split <;> omega) | (refine And.intro ?_ ?_ <;> split <;> omega)) | omega) (fun σ_102 hσ_102 eσ_102 => ?_)
        try simp (disch := omega) only [w32_of, w64_of, w8_of] at eσ_102
        have flσ_102 := FC_sg eσ_102 (by first | decide | (rcases hE with rfl | rfl | rfl <;> decide))
        have frσ_102 : FC [46080, 46336, 46592, 46848, 47104, (kE_size 179), (kE_placeX 179), (kE_placeY 179), kJ_joined, kJ_number, kJ_partBegin, kJ_partEnd, kJ_place, kJ_ringBegin, kJ_ringEnd, kJ_ringNumber, kJ_ringPart, kJ_rings] [] σ σ_102 := FC_tr frσ_100 flσ_102 (by first | decide | (rcases hE with rfl | rfl | rfl <;> decide)) (by first | decide | (rcases hE with rfl | rfl | rfl <;> decide)) (by simp) (by simp)
        exact wp_some (x_inr (x_inr ⟨hσ_102, frσ_102, (by (try dsimp only) <;> first | assumption | omega | ((try simp (disch := omega) only [w32_of, w64_of, w8_of]) <;> first | assumption | omega | (split <;> omega) | (refine And.intro ?_ ?_ <;> split <;> omega)) | omega)⟩))
      · try simp (disch := omega) only [w32_of, w64_of, w8_of, decide_eq_true_eq, decide_eq_false_iff_not, Bool.not_eq_true] at c48
        refine wp_bd (s_A_pointsAt (σ := σ_100) (this_0 := shape_0) (at_0 := at_6) hσ_100 (by first | assumption | decide | omega) (ENa_f frσ_100 (by first | assumption | decide | omega) (NS_0 _) he)) ?_
        rintro x_105 - hpa
        try simp only [FC_plan (t := shape_0) frσ_100 (by first | assumption | decide | omega) (NS_0 _)] at hpa
        try simp (disch := omega) only [w32_of, w64_of, w8_of] at hpa
        refine wp_bd (s_A_behind (σ := σ_100) (this_0 := shape_0) (at_0 := at_6) hσ_100 (by first | assumption | decide | omega) (ENa_f frσ_100 (by first | assumption | decide | omega) (NS_0 _) he)) ?_
        rintro x_107 - hbh
        try simp only [FC_plan (t := shape_0) frσ_100 (by first | assumption | decide | omega) (NS_0 _)] at hbh
        try simp (disch := omega) only [w32_of, w64_of, w8_of] at hbh
        exact wp_some (x_inl ⟨⟨hσ_100, frσ_100, (by (try dsimp only) <;> (first | assumption | exact FLa_0 w0 | (rw [hbh, hpa]; exact hn))), (by (try dsimp only) <;> first | assumption | omega | ((try simp (disch := omega) only [w32_of, w64_of, w8_of]) <;> first | assumption | omega | (split <;> omega) | (refine And.intro ?_ ?_ <;> split <;> omega)) | omega), (by (try dsimp only) <;> first | assumption | omega | ((try simp (disch := omega) only [w32_of, w64_of, w8_of]) <;> first | assumption | omega | (split <;> omega) | (refine And.intro ?_ ?_ <;> split <;> omega)) | omega)⟩, (by (try dsimp only) <;> first | assumption | omega | ((try simp (disch := omega) only [w32_of, w64_of, w8_of]) <;> first | assumption | omega | (split <;> omega) | (refine And.intro ?_ ?_ <;> split <;> omega)) | omega)⟩)
    · try simp (disch := omega) only [w32_of, w64_of, w8_of, decide_eq_true_eq, decide_eq_false_iff_not, Bool.not_eq_true] at c5
      exact wp_some (x_inr (x_inl ⟨hσ_7, frσ_7⟩))
  rintro ⟨from_111, number_112, judged_113, at_114, σ_115⟩ y50
  try dsimp only at y50 ⊢
  obtain ⟨hσ_115, frσ_115⟩ := y50
  exact wp_some ⟨hσ_115, frσ_115, (by (try dsimp only) <;> first | assumption | omega | ((try simp (disch := omega) only [w32_of, w64_of, w8_of]) <;> first | assumption | omega | (split <;> omega) | (refine And.intro ?_ ?_ <;> split <;> omega)) | omega)⟩
