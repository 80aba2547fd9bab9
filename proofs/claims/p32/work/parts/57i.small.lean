theorem s_R_plan {σ : SG} {slot_0 : Int} {i_0 : Int} (hσ : II σ) (qslot_0 : (-2147483648) ≤ slot_0 ∧ slot_0 ≤ 2147483647) (qi_0 : (-2147483648) ≤ i_0 ∧ i_0 ≤ 2147483647) : wp_ (fR_plan σ slot_0 i_0) (fun zz_ => II zz_.2 ∧ FR [kR_thrown] σ zz_.2) := by
  unfold fR_plan
  refine wp_wfI hσ b_kR_thrown (by (try dsimp only) <;> first | assumption | omega | ((try simp (disch := omega) only [w32_of, w64_of, w8_of]) <;> first | assumption | omega | (split <;> omega) | (refine And.intro ?_ ?_ <;> split <;> omega)) | omega) (fun σ_1 hσ_1 eσ_1 => ?_)
  try simp (disch := omega) only [w32_of, w64_of, w8_of] at eσ_1
  have flσ_1 := FR_sg eσ_1
  have frσ_1 : FR [kR_thrown] σ σ_1 := FR_le flσ_1 (by decide)
  have c3 := ii_kR_thrown hσ_1 0
  have c4 := sg_val eσ_1
  refine wp_fails hσ_1 (by (try dsimp only) <;> first | assumption | omega | ((try simp (disch := omega) only [w32_of, w64_of, w8_of]) <;> first | assumption | omega | (split <;> omega) | (refine And.intro ?_ ?_ <;> split <;> omega)) | omega) (by decide) (fun σ_27 hσ_27 flσ_27 e1 e2 => ?_)
  try dsimp only
  have frσ_27 : FR [kR_thrown] σ σ_27 := FR_tr frσ_1 flσ_27 (by decide) (by decide)
  refine wp_if (fun c5 => ?_) (fun c5 => ?_)
  · have k6 := e1 c5
    try simp (disch := omega) only [w32_of, w64_of, w8_of, decide_eq_true_eq, decide_eq_false_iff_not, Bool.not_eq_true, fR_isSlot] at c5
    exact wp_some ⟨hσ_27, frσ_27⟩
  · have k7 := e2 c5
    try simp (disch := omega) only [w32_of, w64_of, w8_of, decide_eq_true_eq, decide_eq_false_iff_not, Bool.not_eq_true, fR_isSlot] at c5
    refine wp_bdk ?_
    have c8 := w32_rng slot_0
    refine wp_rdI (by (try dsimp only) <;> first | assumption | omega | ((try simp (disch := omega) only [w32_of, w64_of, w8_of]) <;> first | assumption | omega | (split <;> omega) | (refine And.intro ?_ ?_ <;> split <;> omega)) | omega) (by (try dsimp only) <;> first | assumption | omega | ((try simp (disch := omega) only [w32_of, w64_of, w8_of]) <;> first | assumption | omega | (split <;> omega) | (refine And.intro ?_ ?_ <;> split <;> omega)) | omega) (fun x_30 e_x_30 => ?_)
    have b_x_30 : 0 ≤ x_30 ∧ x_30 ≤ 2048 := by rw [e_x_30]; exact ii_kR_planMany hσ_27 _
    rw [FR_at frσ_27 (c := kR_planMany) (by decide)] at e_x_30
    try simp (disch := omega) only [w32_of, w64_of, w8_of] at e_x_30
    have c9 := ii_kR_planMany hσ_27 slot_0
    have c10 := FR_at flσ_27 (c := kR_planMany) (by decide) slot_0
    have c11 := ii_kR_planMany hσ_1 slot_0
    have c12 := FR_at flσ_1 (c := kR_planMany) (by decide) slot_0
    have c13 := ii_kR_planMany hσ slot_0
    have c15 := w32_rng i_0
    have c16 := w32_rng (x_30 - 1)
    refine wp_if (fun c14 => ?_) (fun c14 => ?_)
    · try simp (disch := omega) only [w32_of, w64_of, w8_of, decide_eq_true_eq, decide_eq_false_iff_not, Bool.not_eq_true, fR_in] at c14
      refine wp_somek ?_
      try dsimp only
      have c19 := ii_kR_thrown hσ_27 0
      refine wp_fails hσ_27 (by (try dsimp only) <;> first | assumption | omega | ((try simp (disch := omega) only [w32_of, w64_of, w8_of]) <;> first | assumption | omega | (split <;> omega) | (refine And.intro ?_ ?_ <;> split <;> omega)) | omega) (by decide) (fun σ_37 hσ_37 flσ_37 e17 e18 => ?_)
      try dsimp only
      have frσ_37 : FR [kR_thrown] σ σ_37 := FR_tr frσ_27 flσ_37 (by decide) (by decide)
      have k20 := e18 (by decide)
      refine wp_ft ?_
      have c21 := w32_rng ((2048 * slot_0) + i_0)
      refine wp_rdI (by (try dsimp only) <;> first | assumption | omega | ((try simp (disch := omega) only [w32_of, w64_of, w8_of]) <;> first | assumption | omega | (split <;> omega) | (refine And.intro ?_ ?_ <;> split <;> omega)) | omega) (by (try dsimp only) <;> first | assumption | omega | ((try simp (disch := omega) only [w32_of, w64_of, w8_of]) <;> first | assumption | omega | (split <;> omega) | (refine And.intro ?_ ?_ <;> split <;> omega)) | omega) (fun x_40 e_x_40 => ?_)
      rw [FR_at frσ_37 (c := kR_plan) (by decide)] at e_x_40
      try simp (disch := omega) only [w32_of, w64_of, w8_of] at e_x_40
      have c22 := FR_at flσ_37 (c := kR_plan) (by decide) ((2048 * slot_0) + i_0)
      have c23 := FR_at flσ_27 (c := kR_plan) (by decide) ((2048 * slot_0) + i_0)
      have c24 := FR_at flσ_1 (c := kR_plan) (by decide) ((2048 * slot_0) + i_0)
      exact wp_some ⟨hσ_37, frσ_37⟩
    · try simp (disch := omega) only [w32_of, w64_of, w8_of, decide_eq_true_eq, decide_eq_false_iff_not, Bool.not_eq_true, fR_in] at c14
      refine wp_somek ?_
      try dsimp only
      have c27 := ii_kR_thrown hσ_27 0
      refine wp_fails hσ_27 (by (try dsimp only) <;> first | assumption | omega | ((try simp (disch := omega) only [w32_of, w64_of, w8_of]) <;> first | assumption | omega | (split <;> omega) | (refine And.intro ?_ ?_ <;> split <;> omega)) | omega) (by decide) (fun σ_37 hσ_37 flσ_37 e25 e26 => ?_)
      try dsimp only
      have frσ_37 : FR [kR_thrown] σ σ_37 := FR_tr frσ_27 flσ_37 (by decide) (by decide)
      have k28 := e25 rfl
      refine wp_tt ?_
      exact wp_some ⟨hσ_37, frσ_37⟩
theorem s_R_ordinate {σ : SG} {slot_0 : Int} {i_0 : Int} {what_0 : Int} (hσ : II σ) (qslot_0 : (-2147483648) ≤ slot_0 ∧ slot_0 ≤ 2147483647) (qi_0 : (-2147483648) ≤ i_0 ∧ i_0 ≤ 2147483647) (qwhat_0 : (-2147483648) ≤ what_0 ∧ what_0 ≤ 2147483647) : wp_ (fR_ordinate σ slot_0 i_0 what_0) (fun zz_ => ((-1000000000) ≤ zz_.1 ∧ zz_.1 ≤ 1000000000) ∧ II zz_.2 ∧ FR [kR_thrown] σ zz_.2) := by
  unfold fR_ordinate
  refine wp_wfI hσ b_kR_thrown (by (try dsimp only) <;> first | assumption | omega | ((try simp (disch := omega) only [w32_of, w64_of, w8_of]) <;> first | assumption | omega | (split <;> omega) | (refine And.intro ?_ ?_ <;> split <;> omega)) | omega) (fun σ_1 hσ_1 eσ_1 => ?_)
  try simp (disch := omega) only [w32_of, w64_of, w8_of] at eσ_1
  have flσ_1 := FR_sg eσ_1
  have frσ_1 : FR [kR_thrown] σ σ_1 := FR_le flσ_1 (by decide)
  have c3 := ii_kR_thrown hσ_1 0
  have c4 := sg_val eσ_1
  refine wp_fails hσ_1 (by (try dsimp only) <;> first | assumption | omega | ((try simp (disch := omega) only [w32_of, w64_of, w8_of]) <;> first | assumption | omega | (split <;> omega) | (refine And.intro ?_ ?_ <;> split <;> omega)) | omega) (by decide) (fun σ_29 hσ_29 flσ_29 e1 e2 => ?_)
  try dsimp only
  have frσ_29 : FR [kR_thrown] σ σ_29 := FR_tr frσ_1 flσ_29 (by decide) (by decide)
  refine wp_if (fun c5 => ?_) (fun c5 => ?_)
  · have k6 := e1 c5
    try simp (disch := omega) only [w32_of, w64_of, w8_of, decide_eq_true_eq, decide_eq_false_iff_not, Bool.not_eq_true, fR_isSlot] at c5
    exact wp_some ⟨(by (try dsimp only) <;> first | assumption | omega | ((try simp (disch := omega) only [w32_of, w64_of, w8_of]) <;> first | assumption | omega | (split <;> omega) | (refine And.intro ?_ ?_ <;> split <;> omega)) | omega), hσ_29, frσ_29⟩
  · have k7 := e2 c5
    try simp (disch := omega) only [w32_of, w64_of, w8_of, decide_eq_true_eq, decide_eq_false_iff_not, Bool.not_eq_true, fR_isSlot] at c5
    refine wp_bdk ?_
    have c8 := w32_rng slot_0
    refine wp_rdI (by (try dsimp only) <;> first | assumption | omega | ((try simp (disch := omega) only [w32_of, w64_of, w8_of]) <;> first | assumption | omega | (split <;> omega) | (refine And.intro ?_ ?_ <;> split <;> omega)) | omega) (by (try dsimp only) <;> first | assumption | omega | ((try simp (disch := omega) only [w32_of, w64_of, w8_of]) <;> first | assumption | omega | (split <;> omega) | (refine And.intro ?_ ?_ <;> split <;> omega)) | omega) (fun x_32 e_x_32 => ?_)
    have b_x_32 : 0 ≤ x_32 ∧ x_32 ≤ 2048 := by rw [e_x_32]; exact ii_kR_pointMany hσ_29 _
    rw [FR_at frσ_29 (c := kR_pointMany) (by decide)] at e_x_32
    try simp (disch := omega) only [w32_of, w64_of, w8_of] at e_x_32
    have c9 := ii_kR_pointMany hσ_29 slot_0
    have c10 := FR_at flσ_29 (c := kR_pointMany) (by decide) slot_0
    have c11 := ii_kR_pointMany hσ_1 slot_0
    have c12 := FR_at flσ_1 (c := kR_pointMany) (by decide) slot_0
    have c13 := ii_kR_pointMany hσ slot_0
    have c15 := w32_rng i_0
    have c16 := w32_rng (x_32 - 1)
    refine wp_if (fun c14 => ?_) (fun c14 => ?_)
    · try simp (disch := omega) only [w32_of, w64_of, w8_of, decide_eq_true_eq, decide_eq_false_iff_not, Bool.not_eq_true, fR_in] at c14
      have c18 := w32_rng what_0
      refine wp_if (fun c17 => ?_) (fun c17 => ?_)
      · try simp (disch := omega) only [w32_of, w64_of, w8_of, decide_eq_true_eq, decide_eq_false_iff_not, Bool.not_eq_true, fR_in] at c17
        refine wp_somek ?_
        try dsimp only
        have c21 := ii_kR_thrown hσ_29 0
        refine wp_fails hσ_29 (by (try dsimp only) <;> first | assumption | omega | ((try simp (disch := omega) only [w32_of, w64_of, w8_of]) <;> first | assumption | omega | (split <;> omega) | (refine And.intro ?_ ?_ <;> split <;> omega)) | omega) (by decide) (fun σ_41 hσ_41 flσ_41 e19 e20 => ?_)
        try dsimp only
        have frσ_41 : FR [kR_thrown] σ σ_41 := FR_tr frσ_29 flσ_41 (by decide) (by decide)
        have k22 := e20 (by decide)
        refine wp_ft ?_
        refine wp_bd (P := fun rr_ => ((-1000000000) ≤ rr_ ∧ rr_ ≤ 1000000000)) ?_ ?_
        · refine wp_if (fun c23 => ?_) (fun c23 => ?_)
          · try simp (disch := omega) only [w32_of, w64_of, w8_of, decide_eq_true_eq, decide_eq_false_iff_not, Bool.not_eq_true] at c23
            have c24 := w32_rng ((2048 * slot_0) + i_0)
            refine wp_rdI (by (try dsimp only) <;> first | assumption | omega | ((try simp (disch := omega) only [w32_of, w64_of, w8_of]) <;> first | assumption | omega | (split <;> omega) | (refine And.intro ?_ ?_ <;> split <;> omega)) | omega) (by (try dsimp only) <;> first | assumption | omega | ((try simp (disch := omega) only [w32_of, w64_of, w8_of]) <;> first | assumption | omega | (split <;> omega) | (refine And.intro ?_ ?_ <;> split <;> omega)) | omega) (fun x_49 e_x_49 => ?_)
            have b_x_49 : (-1000000000) ≤ x_49 ∧ x_49 ≤ 1000000000 := by rw [e_x_49]; exact ii_kR_xs hσ_41 _
            rw [FR_at frσ_41 (c := kR_xs) (by decide)] at e_x_49
            try simp (disch := omega) only [w32_of, w64_of, w8_of] at e_x_49
            have c25 := ii_kR_xs hσ_41 ((2048 * slot_0) + i_0)
            have c26 := FR_at flσ_41 (c := kR_xs) (by decide) ((2048 * slot_0) + i_0)
            have c27 := ii_kR_xs hσ_29 ((2048 * slot_0) + i_0)
            have c28 := FR_at flσ_29 (c := kR_xs) (by decide) ((2048 * slot_0) + i_0)
            have c29 := ii_kR_xs hσ_1 ((2048 * slot_0) + i_0)
            have c30 := FR_at flσ_1 (c := kR_xs) (by decide) ((2048 * slot_0) + i_0)
            have c31 := ii_kR_xs hσ ((2048 * slot_0) + i_0)
            exact wp_some (by (try dsimp only) <;> first | assumption | omega | ((try simp (disch := omega) only [w32_of, w64_of, w8_of]) <;> first | assumption | omega | (split <;> omega) | (refine And.intro ?_ ?_ <;> split <;> omega)) | omega)
          · try simp (disch := omega) only [w32_of, w64_of, w8_of, decide_eq_true_eq, decide_eq_false_iff_not, Bool.not_eq_true] at c23
            have c32 := w32_rng ((2048 * slot_0) + i_0)
            refine wp_rdI (by (try dsimp only) <;> first | assumption | omega | ((try simp (disch := omega) only [w32_of, w64_of, w8_of]) <;> first | assumption | omega | (split <;> omega) | (refine And.intro ?_ ?_ <;> split <;> omega)) | omega) (by (try dsimp only) <;> first | assumption | omega | ((try simp (disch := omega) only [w32_of, w64_of, w8_of]) <;> first | assumption | omega | (split <;> omega) | (refine And.intro ?_ ?_ <;> split <;> omega)) | omega) (fun x_52 e_x_52 => ?_)
            have b_x_52 : (-1000000000) ≤ x_52 ∧ x_52 ≤ 1000000000 := by rw [e_x_52]; exact ii_kR_ys hσ_41 _
            rw [FR_at frσ_41 (c := kR_ys) (by decide)] at e_x_52
            try simp (disch := omega) only [w32_of, w64_of, w8_of] at e_x_52
            have c33 := ii_kR_ys hσ_41 ((2048 * slot_0) + i_0)
            have c34 := FR_at flσ_41 (c := kR_ys) (by decide) ((2048 * slot_0) + i_0)
            have c35 := ii_kR_ys hσ_29 ((2048 * slot_0) + i_0)
            have c36 := FR_at flσ_29 (c := kR_ys) (by decide) ((2048 * slot_0) + i_0)
            have c37 := ii_kR_ys hσ_1 ((2048 * slot_0) + i_0)
            have c38 := FR_at flσ_1 (c := kR_ys) (by decide) ((2048 * slot_0) + i_0)
            have c39 := ii_kR_ys hσ ((2048 * slot_0) + i_0)
            exact wp_some (by (try dsimp only) <;> first | assumption | omega | ((try simp (disch := omega) only [w32_of, w64_of, w8_of]) <;> first | assumption | omega | (split <;> omega) | (refine And.intro ?_ ?_ <;> split <;> omega)) | omega)
        rintro x_55 _ g40
        exact wp_some ⟨(by (try dsimp only) <;> first | assumption | omega | ((try simp (disch := omega) only [w32_of, w64_of, w8_of]) <;> first | assumption | omega | (split <;> omega) | (refine And.intro ?_ ?_ <;> split <;> omega)) | omega), hσ_41, frσ_41⟩
      · try simp (disch := omega) only [w32_of, w64_of, w8_of, decide_eq_true_eq, decide_eq_false_iff_not, Bool.not_eq_true, fR_in] at c17
        refine wp_somek ?_
        try dsimp only
        have c43 := ii_kR_thrown hσ_29 0
        refine wp_fails hσ_29 (by (try dsimp only) <;> first | assumption | omega | ((try simp (disch := omega) only [w32_of, w64_of, w8_of]) <;> first | assumption | omega | (split <;> omega) | (refine And.intro ?_ ?_ <;> split <;> omega)) | omega) (by decide) (fun σ_41 hσ_41 flσ_41 e41 e42 => ?_)
        try dsimp only
        have frσ_41 : FR [kR_thrown] σ σ_41 := FR_tr frσ_29 flσ_41 (by decide) (by decide)
        have k44 := e41 rfl
        refine wp_tt ?_
        exact wp_some ⟨(by (try dsimp only) <;> first | assumption | omega | ((try simp (disch := omega) only [w32_of, w64_of, w8_of]) <;> first | assumption | omega | (split <;> omega) | (refine And.intro ?_ ?_ <;> split <;> omega)) | omega), hσ_41, frσ_41⟩
    · try simp (disch := omega) only [w32_of, w64_of, w8_of, decide_eq_true_eq, decide_eq_false_iff_not, Bool.not_eq_true, fR_in] at c14
      refine wp_somek ?_
      try dsimp only
      have c47 := ii_kR_thrown hσ_29 0
      refine wp_fails hσ_29 (by (try dsimp only) <;> first | assumption | omega | ((try simp (disch := omega) only [w32_of, w64_of, w8_of]) <;> first | assumption | omega | (split <;> omega) | (refine And.intro ?_ ?_ <;> split <;> omega)) | omega) (by decide) (fun σ_41 hσ_41 flσ_41 e45 e46 => ?_)
      try dsimp only
      have frσ_41 : FR [kR_thrown] σ σ_41 := FR_tr frσ_29 flσ_41 (by decide) (by decide)
      have k48 := e45 rfl
      refine wp_tt ?_
      exact wp_some ⟨(by (try dsimp only) <;> first | assumption | omega | ((try simp (disch := omega) only [w32_of, w64_of, w8_of]) <;> first | assumption | omega | (split <;> omega) | (refine And.intro ?_ ?_ <;> split <;> omega)) | omega), hσ_41, frσ_41⟩
theorem s_R_point {σ : SG} {i_0 : Int} {x_0 : Int} {y_0 : Int} (hσ : II σ) (qi_0 : (-2147483648) ≤ i_0 ∧ i_0 ≤ 2147483647) (qx_0 : (-9223372036854775808) ≤ x_0 ∧ x_0 ≤ 9223372036854775807) (qy_0 : (-9223372036854775808) ≤ y_0 ∧ y_0 ≤ 9223372036854775807) : wp_ (fR_point σ i_0 x_0 y_0) (fun zz_ => II zz_ ∧ FR [kR_signX, kR_signY, kR_thrown] σ zz_) := by
  unfold fR_point
  refine wp_wfI hσ b_kR_thrown (by (try dsimp only) <;> first | assumption | omega | ((try simp (disch := omega) only [w32_of, w64_of, w8_of]) <;> first | assumption | omega | (split <;> omega) | (refine And.intro ?_ ?_ <;> split <;> omega)) | omega) (fun σ_1 hσ_1 eσ_1 => ?_)
  try simp (disch := omega) only [w32_of, w64_of, w8_of] at eσ_1
  have flσ_1 := FR_sg eσ_1
  have frσ_1 : FR [kR_signX, kR_signY, kR_thrown] σ σ_1 := FR_le flσ_1 (by decide)
  have c1 := q_lus_rng x_0 52
  have c2 := q_lan_bd (q_lus x_0 52) (m := 2047) (by decide) (by decide)
  try simp (disch := omega) only [w32_of, w64_of, w8_of] at c2
  have c3 := w64_rng (q_lan (q_lus x_0 52) 2047)
  have c4 := q_lus_rng y_0 52
  have c5 := q_lan_bd (q_lus y_0 52) (m := 2047) (by decide) (by decide)
  try simp (disch := omega) only [w32_of, w64_of, w8_of] at c5
  have c6 := w64_rng (q_lan (q_lus y_0 52) 2047)
  refine wp_lt (fun x_3 e_x_3 => ?_)
  try simp (disch := omega) only [w32_of, w64_of, w8_of] at e_x_3
  have c9 := ii_kR_thrown hσ_1 0
  have c10 := sg_val eσ_1
  refine wp_fails hσ_1 (by (try dsimp only) <;> first | assumption | omega | ((try simp (disch := omega) only [w32_of, w64_of, w8_of]) <;> first | assumption | omega | (split <;> omega) | (refine And.intro ?_ ?_ <;> split <;> omega)) | omega) (by decide) (fun σ_19 hσ_19 flσ_19 e7 e8 => ?_)
  try dsimp only
  have frσ_19 : FR [kR_signX, kR_signY, kR_thrown] σ σ_19 := FR_tr frσ_1 flσ_19 (by decide) (by decide)
  refine wp_if (fun c11 => ?_) (fun c11 => ?_)
  · have k12 := e7 c11
    try simp (disch := omega) only [w32_of, w64_of, w8_of, decide_eq_true_eq, decide_eq_false_iff_not, Bool.not_eq_true, fR_isPoint] at c11
    exact wp_some ⟨hσ_19, frσ_19⟩
  · have k13 := e8 c11
    try simp (disch := omega) only [w32_of, w64_of, w8_of, decide_eq_true_eq, decide_eq_false_iff_not, Bool.not_eq_true, fR_isPoint] at c11
    have c16 := ii_kR_thrown hσ_19 0
    refine wp_fails hσ_19 (by (try dsimp only) <;> first | assumption | omega | ((try simp (disch := omega) only [w32_of, w64_of, w8_of]) <;> first | assumption | omega | (split <;> omega) | (refine And.intro ?_ ?_ <;> split <;> omega)) | omega) (by decide) (fun σ_23 hσ_23 flσ_23 e14 e15 => ?_)
    try dsimp only
    have frσ_23 : FR [kR_signX, kR_signY, kR_thrown] σ σ_23 := FR_tr frσ_19 flσ_23 (by decide) (by decide)
    refine wp_if (fun c17 => ?_) (fun c17 => ?_)
    · have k18 := e14 c17
      try simp (disch := omega) only [w32_of, w64_of, w8_of, decide_eq_true_eq, decide_eq_false_iff_not, Bool.not_eq_true] at c17
      exact wp_some ⟨hσ_23, frσ_23⟩
    · have k19 := e15 c17
      try simp (disch := omega) only [w32_of, w64_of, w8_of, decide_eq_true_eq, decide_eq_false_iff_not, Bool.not_eq_true] at c17
      have c20 := w32_rng i_0
      refine wp_waI hσ_23 b_kR_signX (by (try dsimp only) <;> first | assumption | omega | ((try simp (disch := omega) only [w32_of, w64_of, w8_of]) <;> first | assumption | omega | (split <;> omega) | (refine And.intro ?_ ?_ <;> split <;> omega)) | omega) (by (try dsimp only) <;> first | assumption | omega | ((try simp (disch := omega) only [w32_of, w64_of, w8_of]) <;> first | assumption | omega | (split <;> omega) | (refine And.intro ?_ ?_ <;> split <;> omega)) | omega) (by (try dsimp only) <;> first | assumption | omega | ((try simp (disch := omega) only [w32_of, w64_of, w8_of]) <;> first | assumption | omega | (split <;> omega) | (refine And.intro ?_ ?_ <;> split <;> omega)) | omega) (fun σ_26 hσ_26 eσ_26 => ?_)
      try simp (disch := omega) only [w32_of, w64_of, w8_of] at eσ_26
      have flσ_26 := FR_sg eσ_26
      have frσ_26 : FR [kR_signX, kR_signY, kR_thrown] σ σ_26 := FR_tr frσ_23 flσ_26 (by decide) (by decide)
      refine wp_waI hσ_26 b_kR_signY (by (try dsimp only) <;> first | assumption | omega | ((try simp (disch := omega) only [w32_of, w64_of, w8_of]) <;> first | assumption | omega | (split <;> omega) | (refine And.intro ?_ ?_ <;> split <;> omega)) | omega) (by (try dsimp only) <;> first | assumption | omega | ((try simp (disch := omega) only [w32_of, w64_of, w8_of]) <;> first | assumption | omega | (split <;> omega) | (refine And.intro ?_ ?_ <;> split <;> omega)) | omega) (by (try dsimp only) <;> first | assumption | omega | ((try simp (disch := omega) only [w32_of, w64_of, w8_of]) <;> first | assumption | omega | (split <;> omega) | (refine And.intro ?_ ?_ <;> split <;> omega)) | omega) (fun σ_28 hσ_28 eσ_28 => ?_)
      try simp (disch := omega) only [w32_of, w64_of, w8_of] at eσ_28
      have flσ_28 := FR_sg eσ_28
      have frσ_28 : FR [kR_signX, kR_signY, kR_thrown] σ σ_28 := FR_tr frσ_26 flσ_28 (by decide) (by decide)
      exact wp_some ⟨hσ_28, frσ_28⟩
theorem s_R_find {σ : SG} {what_0 : Int} {lowX0_0 : Int} {lowY0_0 : Int} {highX0_0 : Int} {highY0_0 : Int} (hσ : II σ) (qwhat_0 : (-2147483648) ≤ what_0 ∧ what_0 ≤ 2147483647) (qlowX0_0 : (-2147483648) ≤ lowX0_0 ∧ lowX0_0 ≤ 2147483647) (qlowY0_0 : (-2147483648) ≤ lowY0_0 ∧ lowY0_0 ≤ 2147483647) (qhighX0_0 : (-2147483648) ≤ highX0_0 ∧ highX0_0 ≤ 2147483647) (qhighY0_0 : (-2147483648) ≤ highY0_0 ∧ highY0_0 ≤ 2147483647) : wp_ (fR_find σ what_0 lowX0_0 lowY0_0 highX0_0 highY0_0) (fun zz_ => II zz_.2 ∧ FR [kR_foundMany, kR_foundSlot, kR_highX, kR_highY, kR_lowX, kR_lowY, kR_thrown] σ zz_.2) := by
  unfold fR_find
  refine wp_wfI hσ b_kR_thrown (by (try dsimp only) <;> first | assumption | omega | ((try simp (disch := omega) only [w32_of, w64_of, w8_of]) <;> first | assumption | omega | (split <;> omega) | (refine And.intro ?_ ?_ <;> split <;> omega)) | omega) (fun σ_1 hσ_1 eσ_1 => ?_)
  try simp (disch := omega) only [w32_of, w64_of, w8_of] at eσ_1
  have flσ_1 := FR_sg eσ_1
  have frσ_1 : FR [kR_foundMany, kR_foundSlot, kR_highX, kR_highY, kR_lowX, kR_lowY, kR_thrown] σ σ_1 := FR_le flσ_1 (by decide)
  have c1 := w32_rng what_0
  have c2 := w32_rng lowX0_0
  have c3 := w32_rng lowY0_0
  have c4 := w32_rng highX0_0
  have c5 := w32_rng highY0_0
  refine wp_lt (fun x_3 e_x_3 => ?_)
  try simp (disch := omega) only [w32_of, w64_of, w8_of] at e_x_3
  have c8 := ii_kR_thrown hσ_1 0
  have c9 := sg_val eσ_1
  refine wp_fails hσ_1 (by (try dsimp only) <;> first | assumption | omega | ((try simp (disch := omega) only [w32_of, w64_of, w8_of]) <;> first | assumption | omega | (split <;> omega) | (refine And.intro ?_ ?_ <;> split <;> omega)) | omega) (by decide) (fun σ_6 hσ_6 flσ_6 e6 e7 => ?_)
  try dsimp only
  have frσ_6 : FR [kR_foundMany, kR_foundSlot, kR_highX, kR_highY, kR_lowX, kR_lowY, kR_thrown] σ σ_6 := FR_tr frσ_1 flσ_6 (by decide) (by decide)
  refine wp_if (fun c10 => ?_) (fun c10 => ?_)
  · have k11 := e6 c10
    try simp (disch := omega) only [w32_of, w64_of, w8_of, decide_eq_true_eq, decide_eq_false_iff_not, Bool.not_eq_true] at c10
    exact wp_some ⟨hσ_6, frσ_6⟩
  · have k12 := e7 c10
    try simp (disch := omega) only [w32_of, w64_of, w8_of, decide_eq_true_eq, decide_eq_false_iff_not, Bool.not_eq_true] at c10
    refine wp_wfI hσ_6 b_kR_foundMany (by (try dsimp only) <;> first | assumption | omega | ((try simp (disch := omega) only [w32_of, w64_of, w8_of]) <;> first | assumption | omega | (split <;> omega) | (refine And.intro ?_ ?_ <;> split <;> omega)) | omega) (fun σ_9 hσ_9 eσ_9 => ?_)
    try simp (disch := omega) only [w32_of, w64_of, w8_of] at eσ_9
    have flσ_9 := FR_sg eσ_9
    have frσ_9 : FR [kR_foundMany, kR_foundSlot, kR_highX, kR_highY, kR_lowX, kR_lowY, kR_thrown] σ σ_9 := FR_tr frσ_6 flσ_9 (by decide) (by decide)
    refine wp_bd (P := fun rr_ => (32 ≤ rr_.1 ∧ rr_.1 ≤ 32) ∧ II rr_.2 ∧ FR [kR_foundMany, kR_foundSlot, kR_highX, kR_highY, kR_lowX, kR_lowY, kR_thrown] σ rr_.2) ?_ ?_
    · have c13 := ii_kR_foundMany hσ_9 0
      have c14 := sg_val eσ_9
      refine wp_whl (fun ss_ => II ss_.2 ∧ FR [kR_foundMany, kR_foundSlot, kR_highX, kR_highY, kR_lowX, kR_lowY, kR_thrown] σ ss_.2 ∧ (0 ≤ ss_.1 ∧ ss_.1 ≤ 32) ∧ (0 ≤ ss_.2 kR_foundMany 0 ∧ ss_.2 kR_foundMany 0 ≤ ss_.1)) (fun ss_ => (33 - ss_.1).toNat) ⟨hσ_9, frσ_9, (by (try dsimp only) <;> first | assumption | omega | ((try simp (disch := omega) only [w32_of, w64_of, w8_of]) <;> first | assumption | omega | (split <;> omega) | (refine And.intro ?_ ?_ <;> split <;> omega)) | omega), (by (try dsimp only) <;> first | assumption | omega | ((try simp (disch := omega) only [w32_of, w64_of, w8_of]) <;> first | assumption | omega | (split <;> omega) | (refine And.intro ?_ ?_ <;> split <;> omega)) | omega)⟩ ?_
      rintro ⟨s_10, σ_11⟩ y17
      try dsimp only at y17 ⊢
      obtain ⟨hσ_11, frσ_11, g15, g16⟩ := y17
      have c19 := w32_rng s_10
      refine wp_if (fun c18 => ?_) (fun c18 => ?_)
      · try simp (disch := omega) only [w32_of, w64_of, w8_of, decide_eq_true_eq, decide_eq_false_iff_not, Bool.not_eq_true] at c18
        refine wp_bd (s_R_box (σ := σ_11) (slot_0 := s_10) hσ_11 (by (try dsimp only) <;> first | assumption | omega | ((try simp (disch := omega) only [w32_of, w64_of, w8_of]) <;> first | assumption | omega | (split <;> omega) | (refine And.intro ?_ ?_ <;> split <;> omega)) | omega)) ?_
        rintro ⟨x_22, σ_21⟩ - y21
        try dsimp only at y21 ⊢
        obtain ⟨g20, hσ_21, flσ_21⟩ := y21
        have frσ_21 : FR [kR_foundMany, kR_foundSlot, kR_highX, kR_highY, kR_lowX, kR_lowY, kR_thrown] σ σ_21 := FR_tr frσ_11 flσ_21 (by decide) (by decide)
        try simp (disch := omega) only [w32_of, w64_of, w8_of] at g20
        refine wp_if (fun c22 => ?_) (fun c22 => ?_)
        · try simp (disch := omega) only [w32_of, w64_of, w8_of, decide_eq_true_eq, decide_eq_false_iff_not, Bool.not_eq_true] at c22
          refine wp_bd (P := fun rr_ => True) ?_ ?_
          · refine wp_rdI (by (try dsimp only) <;> first | assumption | omega | ((try simp (disch := omega) only [w32_of, w64_of, w8_of]) <;> first | assumption | omega | (split <;> omega) | (refine And.intro ?_ ?_ <;> split <;> omega)) | omega) (by (try dsimp only) <;> first | assumption | omega | ((try simp (disch := omega) only [w32_of, w64_of, w8_of]) <;> first | assumption | omega | (split <;> omega) | (refine And.intro ?_ ?_ <;> split <;> omega)) | omega) (fun x_24 e_x_24 => ?_)
            have b_x_24 : (-1000000000) ≤ x_24 ∧ x_24 ≤ 4000000000 := by rw [e_x_24]; exact ii_kR_lowX hσ_21 _
            try simp (disch := omega) only [w32_of, w64_of, w8_of] at e_x_24
            have c23 := ii_kR_lowX hσ_21 s_10
            have c25 := w64_rng x_24
            have c26 := w64_rng (w32 highX0_0)
            refine wp_if (fun c24 => ?_) (fun c24 => ?_)
            · try simp (disch := omega) only [w32_of, w64_of, w8_of, decide_eq_true_eq, decide_eq_false_iff_not, Bool.not_eq_true] at c24
              refine wp_rdI (by (try dsimp only) <;> first | assumption | omega | ((try simp (disch := omega) only [w32_of, w64_of, w8_of]) <;> first | assumption | omega | (split <;> omega) | (refine And.intro ?_ ?_ <;> split <;> omega)) | omega) (by (try dsimp only) <;> first | assumption | omega | ((try simp (disch := omega) only [w32_of, w64_of, w8_of]) <;> first | assumption | omega | (split <;> omega) | (refine And.intro ?_ ?_ <;> split <;> omega)) | omega) (fun x_27 e_x_27 => ?_)
              have b_x_27 : (-4000000000) ≤ x_27 ∧ x_27 ≤ 1000000000 := by rw [e_x_27]; exact ii_kR_highX hσ_21 _
              try simp (disch := omega) only [w32_of, w64_of, w8_of] at e_x_27
              have c27 := ii_kR_highX hσ_21 s_10
              have c29 := w64_rng (w32 lowX0_0)
              have c30 := w64_rng x_27
              refine wp_if (fun c28 => ?_) (fun c28 => ?_)
              · try simp (disch := omega) only [w32_of, w64_of, w8_of, decide_eq_true_eq, decide_eq_false_iff_not, Bool.not_eq_true] at c28
                refine wp_rdI (by (try dsimp only) <;> first | assumption | omega | ((try simp (disch := omega) only [w32_of, w64_of, w8_of]) <;> first | assumption | omega | (split <;> omega) | (refine And.intro ?_ ?_ <;> split <;> omega)) | omega) (by (try dsimp only) <;> first | assumption | omega | ((try simp (disch := omega) only [w32_of, w64_of, w8_of]) <;> first | assumption | omega | (split <;> omega) | (refine And.intro ?_ ?_ <;> split <;> omega)) | omega) (fun x_30 e_x_30 => ?_)
                have b_x_30 : (-1000000000) ≤ x_30 ∧ x_30 ≤ 4000000000 := by rw [e_x_30]; exact ii_kR_lowY hσ_21 _
                try simp (disch := omega) only [w32_of, w64_of, w8_of] at e_x_30
                have c31 := ii_kR_lowY hσ_21 s_10
                have c33 := w64_rng x_30
                have c34 := w64_rng (w32 highY0_0)
                refine wp_if (fun c32 => ?_) (fun c32 => ?_)
                · try simp (disch := omega) only [w32_of, w64_of, w8_of, decide_eq_true_eq, decide_eq_false_iff_not, Bool.not_eq_true] at c32
                  refine wp_rdI (by (try dsimp only) <;> first | assumption | omega | ((try simp (disch := omega) only [w32_of, w64_of, w8_of]) <;> first | assumption | omega | (split <;> omega) | (refine And.intro ?_ ?_ <;> split <;> omega)) | omega) (by (try dsimp only) <;> first | assumption | omega | ((try simp (disch := omega) only [w32_of, w64_of, w8_of]) <;> first | assumption | omega | (split <;> omega) | (refine And.intro ?_ ?_ <;> split <;> omega)) | omega) (fun x_33 e_x_33 => ?_)
                  have b_x_33 : (-4000000000) ≤ x_33 ∧ x_33 ≤ 1000000000 := by rw [e_x_33]; exact ii_kR_highY hσ_21 _
                  try simp (disch := omega) only [w32_of, w64_of, w8_of] at e_x_33
                  have c35 := ii_kR_highY hσ_21 s_10
                  have c37 := w64_rng (w32 lowY0_0)
                  have c38 := w64_rng x_33
                  refine wp_if (fun c36 => ?_) (fun c36 => ?_)
                  · try simp (disch := omega) only [w32_of, w64_of, w8_of, decide_eq_true_eq, decide_eq_false_iff_not, Bool.not_eq_true] at c36
                    exact wp_some trivial
                  · try simp (disch := omega) only [w32_of, w64_of, w8_of, decide_eq_true_eq, decide_eq_false_iff_not, Bool.not_eq_true] at c36
                    exact wp_some trivial
                · try simp (disch := omega) only [w32_of, w64_of, w8_of, decide_eq_true_eq, decide_eq_false_iff_not, Bool.not_eq_true] at c32
                  exact wp_some trivial
              · try simp (disch := omega) only [w32_of, w64_of, w8_of, decide_eq_true_eq, decide_eq_false_iff_not, Bool.not_eq_true] at c28
                exact wp_some trivial
            · try simp (disch := omega) only [w32_of, w64_of, w8_of, decide_eq_true_eq, decide_eq_false_iff_not, Bool.not_eq_true] at c24
              exact wp_some trivial
          rintro x_41 _ -
          refine wp_bd (P := fun rr_ => True) ?_ ?_
          · refine wp_rdI (by (try dsimp only) <;> first | assumption | omega | ((try simp (disch := omega) only [w32_of, w64_of, w8_of]) <;> first | assumption | omega | (split <;> omega) | (refine And.intro ?_ ?_ <;> split <;> omega)) | omega) (by (try dsimp only) <;> first | assumption | omega | ((try simp (disch := omega) only [w32_of, w64_of, w8_of]) <;> first | assumption | omega | (split <;> omega) | (refine And.intro ?_ ?_ <;> split <;> omega)) | omega) (fun x_42 e_x_42 => ?_)
            have b_x_42 : (-1000000000) ≤ x_42 ∧ x_42 ≤ 4000000000 := by rw [e_x_42]; exact ii_kR_lowX hσ_21 _
            try simp (disch := omega) only [w32_of, w64_of, w8_of] at e_x_42
            have c39 := ii_kR_lowX hσ_21 s_10
            have c41 := w64_rng (w32 lowX0_0)
            have c42 := w64_rng x_42
            refine wp_if (fun c40 => ?_) (fun c40 => ?_)
            · try simp (disch := omega) only [w32_of, w64_of, w8_of, decide_eq_true_eq, decide_eq_false_iff_not, Bool.not_eq_true] at c40
              refine wp_rdI (by (try dsimp only) <;> first | assumption | omega | ((try simp (disch := omega) only [w32_of, w64_of, w8_of]) <;> first | assumption | omega | (split <;> omega) | (refine And.intro ?_ ?_ <;> split <;> omega)) | omega) (by (try dsimp only) <;> first | assumption | omega | ((try simp (disch := omega) only [w32_of, w64_of, w8_of]) <;> first | assumption | omega | (split <;> omega) | (refine And.intro ?_ ?_ <;> split <;> omega)) | omega) (fun x_45 e_x_45 => ?_)
              have b_x_45 : (-4000000000) ≤ x_45 ∧ x_45 ≤ 1000000000 := by rw [e_x_45]; exact ii_kR_highX hσ_21 _
              try simp (disch := omega) only [w32_of, w64_of, w8_of] at e_x_45
              have c43 := ii_kR_highX hσ_21 s_10
              have c45 := w64_rng x_45
              have c46 := w64_rng (w32 highX0_0)
              refine wp_if (fun c44 => ?_) (fun c44 => ?_)
              · try simp (disch := omega) only [w32_of, w64_of, w8_of, decide_eq_true_eq, decide_eq_false_iff_not, Bool.not_eq_true] at c44
                refine wp_rdI (by (try dsimp only) <;> first | assumption | omega | ((try simp (disch := omega) only [w32_of, w64_of, w8_of]) <;> first | assumption | omega | (split <;> omega) | (refine And.intro ?_ ?_ <;> split <;> omega)) | omega) (by (try dsimp only) <;> first | assumption | omega | ((try simp (disch := omega) only [w32_of, w64_of, w8_of]) <;> first | assumption | omega | (split <;> omega) | (refine And.intro ?_ ?_ <;> split <;> omega)) | omega) (fun x_48 e_x_48 => ?_)
                have b_x_48 : (-1000000000) ≤ x_48 ∧ x_48 ≤ 4000000000 := by rw [e_x_48]; exact ii_kR_lowY hσ_21 _
                try simp (disch := omega) only [w32_of, w64_of, w8_of] at e_x_48
                have c47 := ii_kR_lowY hσ_21 s_10
                have c49 := w64_rng (w32 lowY0_0)
                have c50 := w64_rng x_48
                refine wp_if (fun c48 => ?_) (fun c48 => ?_)
                · try simp (disch := omega) only [w32_of, w64_of, w8_of, decide_eq_true_eq, decide_eq_false_iff_not, Bool.not_eq_true] at c48
                  refine wp_rdI (by (try dsimp only) <;> first | assumption | omega | ((try simp (disch := omega) only [w32_of, w64_of, w8_of]) <;> first | assumption | omega | (split <;> omega) | (refine And.intro ?_ ?_ <;> split <;> omega)) | omega) (by (try dsimp only) <;> first | assumption | omega | ((try simp (disch := omega) only [w32_of, w64_of, w8_of]) <;> first | assumption | omega | (split <;> omega) | (refine And.intro ?_ ?_ <;> split <;> omega)) | omega) (fun x_51 e_x_51 => ?_)
                  have b_x_51 : (-4000000000) ≤ x_51 ∧ x_51 ≤ 1000000000 := by rw [e_x_51]; exact ii_kR_highY hσ_21 _
                  try simp (disch := omega) only [w32_of, w64_of, w8_of] at e_x_51
                  have c51 := ii_kR_highY hσ_21 s_10
                  have c53 := w64_rng x_51
                  have c54 := w64_rng (w32 highY0_0)
                  refine wp_if (fun c52 => ?_) (fun c52 => ?_)
                  · try simp (disch := omega) only [w32_of, w64_of, w8_of, decide_eq_true_eq, decide_eq_false_iff_not, Bool.not_eq_true] at c52
                    exact wp_some trivial
                  · try simp (disch := omega) only [w32_of, w64_of, w8_of, decide_eq_true_eq, decide_eq_false_iff_not, Bool.not_eq_true] at c52
                    exact wp_some trivial
                · try simp (disch := omega) only [w32_of, w64_of, w8_of, decide_eq_true_eq, decide_eq_false_iff_not, Bool.not_eq_true] at c48
                  exact wp_some trivial
              · try simp (disch := omega) only [w32_of, w64_of, w8_of, decide_eq_true_eq, decide_eq_false_iff_not, Bool.not_eq_true] at c44
                exact wp_some trivial
            · try simp (disch := omega) only [w32_of, w64_of, w8_of, decide_eq_true_eq, decide_eq_false_iff_not, Bool.not_eq_true] at c40
              exact wp_some trivial
          rintro x_59 _ -
          refine wp_bd (P := fun rr_ => True) ?_ ?_
          · refine wp_rdI (by (try dsimp only) <;> first | assumption | omega | ((try simp (disch := omega) only [w32_of, w64_of, w8_of]) <;> first | assumption | omega | (split <;> omega) | (refine And.intro ?_ ?_ <;> split <;> omega)) | omega) (by (try dsimp only) <;> first | assumption | omega | ((try simp (disch := omega) only [w32_of, w64_of, w8_of]) <;> first | assumption | omega | (split <;> omega) | (refine And.intro ?_ ?_ <;> split <;> omega)) | omega) (fun x_60 e_x_60 => ?_)
            have b_x_60 : (-1000000000) ≤ x_60 ∧ x_60 ≤ 4000000000 := by rw [e_x_60]; exact ii_kR_lowX hσ_21 _
            try simp (disch := omega) only [w32_of, w64_of, w8_of] at e_x_60
            have c55 := ii_kR_lowX hσ_21 s_10
            have c57 := w64_rng x_60
            have c58 := w64_rng (w32 lowX0_0)
            refine wp_if (fun c56 => ?_) (fun c56 => ?_)
            · try simp (disch := omega) only [w32_of, w64_of, w8_of, decide_eq_true_eq, decide_eq_false_iff_not, Bool.not_eq_true] at c56
              refine wp_rdI (by (try dsimp only) <;> first | assumption | omega | ((try simp (disch := omega) only [w32_of, w64_of, w8_of]) <;> first | assumption | omega | (split <;> omega) | (refine And.intro ?_ ?_ <;> split <;> omega)) | omega) (by (try dsimp only) <;> first | assumption | omega | ((try simp (disch := omega) only [w32_of, w64_of, w8_of]) <;> first | assumption | omega | (split <;> omega) | (refine And.intro ?_ ?_ <;> split <;> omega)) | omega) (fun x_63 e_x_63 => ?_)
              have b_x_63 : (-4000000000) ≤ x_63 ∧ x_63 ≤ 1000000000 := by rw [e_x_63]; exact ii_kR_highX hσ_21 _
              try simp (disch := omega) only [w32_of, w64_of, w8_of] at e_x_63
              have c59 := ii_kR_highX hσ_21 s_10
              have c61 := w64_rng (w32 highX0_0)
              have c62 := w64_rng x_63
              refine wp_if (fun c60 => ?_) (fun c60 => ?_)
              · try simp (disch := omega) only [w32_of, w64_of, w8_of, decide_eq_true_eq, decide_eq_false_iff_not, Bool.not_eq_true] at c60
                refine wp_rdI (by (try dsimp only) <;> first | assumption | omega | ((try simp (disch := omega) only [w32_of, w64_of, w8_of]) <;> first | assumption | omega | (split <;> omega) | (refine And.intro ?_ ?_ <;> split <;> omega)) | omega) (by (try dsimp only) <;> first | assumption | omega | ((try simp (disch := omega) only [w32_of, w64_of, w8_of]) <;> first | assumption | omega | (split <;> omega) | (refine And.intro ?_ ?_ <;> split <;> omega)) | omega) (fun x_66 e_x_66 => ?_)
                have b_x_66 : (-1000000000) ≤ x_66 ∧ x_66 ≤ 4000000000 := by rw [e_x_66]; exact ii_kR_lowY hσ_21 _
                try simp (disch := omega) only [w32_of, w64_of, w8_of] at e_x_66
                have c63 := ii_kR_lowY hσ_21 s_10
                have c65 := w64_rng x_66
                have c66 := w64_rng (w32 lowY0_0)
                refine wp_if (fun c64 => ?_) (fun c64 => ?_)
                · try simp (disch := omega) only [w32_of, w64_of, w8_of, decide_eq_true_eq, decide_eq_false_iff_not, Bool.not_eq_true] at c64
                  refine wp_rdI (by (try dsimp only) <;> first | assumption | omega | ((try simp (disch := omega) only [w32_of, w64_of, w8_of]) <;> first | assumption | omega | (split <;> omega) | (refine And.intro ?_ ?_ <;> split <;> omega)) | omega) (by (try dsimp only) <;> first | assumption | omega | ((try simp (disch := omega) only [w32_of, w64_of, w8_of]) <;> first | assumption | omega | (split <;> omega) | (refine And.intro ?_ ?_ <;> split <;> omega)) | omega) (fun x_69 e_x_69 => ?_)
                  have b_x_69 : (-4000000000) ≤ x_69 ∧ x_69 ≤ 1000000000 := by rw [e_x_69]; exact ii_kR_highY hσ_21 _
                  try simp (disch := omega) only [w32_of, w64_of, w8_of] at e_x_69
                  have c67 := ii_kR_highY hσ_21 s_10
                  have c69 := w64_rng (w32 highY0_0)
                  have c70 := w64_rng x_69
                  refine wp_if (fun c68 => ?_) (fun c68 => ?_)
                  · try simp (disch := omega) only [w32_of, w64_of, w8_of, decide_eq_true_eq, decide_eq_false_iff_not, Bool.not_eq_true] at c68
                    exact wp_some trivial
                  · try simp (disch := omega) only [w32_of, w64_of, w8_of, decide_eq_true_eq, decide_eq_false_iff_not, Bool.not_eq_true] at c68
                    exact wp_some trivial
                · try simp (disch := omega) only [w32_of, w64_of, w8_of, decide_eq_true_eq, decide_eq_false_iff_not, Bool.not_eq_true] at c64
                  exact wp_some trivial
              · try simp (disch := omega) only [w32_of, w64_of, w8_of, decide_eq_true_eq, decide_eq_false_iff_not, Bool.not_eq_true] at c60
                exact wp_some trivial
            · try simp (disch := omega) only [w32_of, w64_of, w8_of, decide_eq_true_eq, decide_eq_false_iff_not, Bool.not_eq_true] at c56
              exact wp_some trivial
          rintro x_77 _ -
          refine wp_if (fun c71 => ?_) (fun c71 => ?_)
          · try simp (disch := omega) only [w32_of, w64_of, w8_of, decide_eq_true_eq, decide_eq_false_iff_not, Bool.not_eq_true] at c71
            have c72 := ii_kR_foundMany hσ_21 0
            have c73 := FR_at flσ_21 (c := kR_foundMany) (by decide) 0
            have c74 := ii_kR_foundMany hσ_11 0
            exact wp_some (x_inl ⟨⟨hσ_21, frσ_21, (by (try dsimp only) <;> first | assumption | omega | ((try simp (disch := omega) only [w32_of, w64_of, w8_of]) <;> first | assumption | omega | (split <;> omega) | (refine And.intro ?_ ?_ <;> split <;> omega)) | omega), (by (try dsimp only) <;> first | assumption | omega | ((try simp (disch := omega) only [w32_of, w64_of, w8_of]) <;> first | assumption | omega | (split <;> omega) | (refine And.intro ?_ ?_ <;> split <;> omega)) | omega)⟩, (by (try dsimp only) <;> first | assumption | omega | ((try simp (disch := omega) only [w32_of, w64_of, w8_of]) <;> first | assumption | omega | (split <;> omega) | (refine And.intro ?_ ?_ <;> split <;> omega)) | omega)⟩)
          · try simp (disch := omega) only [w32_of, w64_of, w8_of, decide_eq_true_eq, decide_eq_false_iff_not, Bool.not_eq_true] at c71
            have c75 := ii_kR_foundMany hσ_21 0
            have c76 := FR_at flσ_21 (c := kR_foundMany) (by decide) 0
            have c77 := ii_kR_foundMany hσ_11 0
            have c78 := w32_rng (σ_21 kR_foundMany 0)
            refine wp_waI hσ_21 b_kR_foundSlot (by (try dsimp only) <;> first | assumption | omega | ((try simp (disch := omega) only [w32_of, w64_of, w8_of]) <;> first | assumption | omega | (split <;> omega) | (refine And.intro ?_ ?_ <;> split <;> omega)) | omega) (by (try dsimp only) <;> first | assumption | omega | ((try simp (disch := omega) only [w32_of, w64_of, w8_of]) <;> first | assumption | omega | (split <;> omega) | (refine And.intro ?_ ?_ <;> split <;> omega)) | omega) (by (try dsimp only) <;> first | assumption | omega | ((try simp (disch := omega) only [w32_of, w64_of, w8_of]) <;> first | assumption | omega | (split <;> omega) | (refine And.intro ?_ ?_ <;> split <;> omega)) | omega) (fun σ_79 hσ_79 eσ_79 => ?_)
            try simp (disch := omega) only [w32_of, w64_of, w8_of] at eσ_79
            have flσ_79 := FR_sg eσ_79
            have frσ_79 : FR [kR_foundMany, kR_foundSlot, kR_highX, kR_highY, kR_lowX, kR_lowY, kR_thrown] σ σ_79 := FR_tr frσ_21 flσ_79 (by decide) (by decide)
            have c79 := ii_kR_foundMany hσ_79 0
            have c80 := FR_at flσ_79 (c := kR_foundMany) (by decide) 0
            refine wp_wfI hσ_79 b_kR_foundMany (by (try dsimp only) <;> first | assumption | omega | ((try simp (disch := omega) only [w32_of, w64_of, w8_of]) <;> first | assumption | omega | (split <;> omega) | (refine And.intro ?_ ?_ <;> split <;> omega)) | omega) (fun σ_81 hσ_81 eσ_81 => ?_)
            try simp (disch := omega) only [w32_of, w64_of, w8_of] at eσ_81
            have flσ_81 := FR_sg eσ_81
            have frσ_81 : FR [kR_foundMany, kR_foundSlot, kR_highX, kR_highY, kR_lowX, kR_lowY, kR_thrown] σ σ_81 := FR_tr frσ_79 flσ_81 (by decide) (by decide)
            have c81 := ii_kR_foundMany hσ_81 0
            have c82 := sg_val eσ_81
            exact wp_some (x_inl ⟨⟨hσ_81, frσ_81, (by (try dsimp only) <;> first | assumption | omega | ((try simp (disch := omega) only [w32_of, w64_of, w8_of]) <;> first | assumption | omega | (split <;> omega) | (refine And.intro ?_ ?_ <;> split <;> omega)) | omega), (by (try dsimp only) <;> first | assumption | omega | ((try simp (disch := omega) only [w32_of, w64_of, w8_of]) <;> first | assumption | omega | (split <;> omega) | (refine And.intro ?_ ?_ <;> split <;> omega)) | omega)⟩, (by (try dsimp only) <;> first | assumption | omega | ((try simp (disch := omega) only [w32_of, w64_of, w8_of]) <;> first | assumption | omega | (split <;> omega) | (refine And.intro ?_ ?_ <;> split <;> omega)) | omega)⟩)
        · try simp (disch := omega) only [w32_of, w64_of, w8_of, decide_eq_true_eq, decide_eq_false_iff_not, Bool.not_eq_true] at c22
          have c83 := ii_kR_foundMany hσ_21 0
          have c84 := FR_at flσ_21 (c := kR_foundMany) (by decide) 0
          have c85 := ii_kR_foundMany hσ_11 0
          exact wp_some (x_inl ⟨⟨hσ_21, frσ_21, (by (try dsimp only) <;> first | assumption | omega | ((try simp (disch := omega) only [w32_of, w64_of, w8_of]) <;> first | assumption | omega | (split <;> omega) | (refine And.intro ?_ ?_ <;> split <;> omega)) | omega), (by (try dsimp only) <;> first | assumption | omega | ((try simp (disch := omega) only [w32_of, w64_of, w8_of]) <;> first | assumption | omega | (split <;> omega) | (refine And.intro ?_ ?_ <;> split <;> omega)) | omega)⟩, (by (try dsimp only) <;> first | assumption | omega | ((try simp (disch := omega) only [w32_of, w64_of, w8_of]) <;> first | assumption | omega | (split <;> omega) | (refine And.intro ?_ ?_ <;> split <;> omega)) | omega)⟩)
      · try simp (disch := omega) only [w32_of, w64_of, w8_of, decide_eq_true_eq, decide_eq_false_iff_not, Bool.not_eq_true] at c18
        exact wp_some (x_inr ⟨(by (try dsimp only) <;> first | assumption | omega | ((try simp (disch := omega) only [w32_of, w64_of, w8_of]) <;> first | assumption | omega | (split <;> omega) | (refine And.intro ?_ ?_ <;> split <;> omega)) | omega), hσ_11, frσ_11⟩)
    rintro ⟨s_110, σ_111⟩ _ y87
    try dsimp only at y87 ⊢
    obtain ⟨g86, hσ_111, frσ_111⟩ := y87
    exact wp_some ⟨hσ_111, frσ_111⟩
theorem s_R_nearest {σ : SG} {x_0 : Int} {y_0 : Int} {n_0 : Int} (hσ : II σ) (qx_0 : (-2147483648) ≤ x_0 ∧ x_0 ≤ 2147483647) (qy_0 : (-2147483648) ≤ y_0 ∧ y_0 ≤ 2147483647) (qn_0 : (-2147483648) ≤ n_0 ∧ n_0 ≤ 2147483647) : wp_ (fR_nearest σ x_0 y_0 n_0) (fun zz_ => (0 ≤ zz_.1 ∧ zz_.1 ≤ 32) ∧ II zz_.2 ∧ FR [kR_foundMany, kR_foundSlot, kR_highX, kR_highY, kR_lowX, kR_lowY, kR_thrown] σ zz_.2) := by
  unfold fR_nearest
  refine wp_wfI hσ b_kR_thrown (by (try dsimp only) <;> first | assumption | omega | ((try simp (disch := omega) only [w32_of, w64_of, w8_of]) <;> first | assumption | omega | (split <;> omega) | (refine And.intro ?_ ?_ <;> split <;> omega)) | omega) (fun σ_1 hσ_1 eσ_1 => ?_)
  try simp (disch := omega) only [w32_of, w64_of, w8_of] at eσ_1
  have flσ_1 := FR_sg eσ_1
  have frσ_1 : FR [kR_foundMany, kR_foundSlot, kR_highX, kR_highY, kR_lowX, kR_lowY, kR_thrown] σ σ_1 := FR_le flσ_1 (by decide)
  have c1 := w32_rng n_0
  have c2 := w32_rng x_0
  have c3 := w32_rng y_0
  have c6 := ii_kR_thrown hσ_1 0
  have c7 := sg_val eσ_1
  refine wp_fails hσ_1 (by (try dsimp only) <;> first | assumption | omega | ((try simp (disch := omega) only [w32_of, w64_of, w8_of]) <;> first | assumption | omega | (split <;> omega) | (refine And.intro ?_ ?_ <;> split <;> omega)) | omega) (by decide) (fun σ_4 hσ_4 flσ_4 e4 e5 => ?_)
  try dsimp only
  have frσ_4 : FR [kR_foundMany, kR_foundSlot, kR_highX, kR_highY, kR_lowX, kR_lowY, kR_thrown] σ σ_4 := FR_tr frσ_1 flσ_4 (by decide) (by decide)
  refine wp_if (fun c8 => ?_) (fun c8 => ?_)
  · have k9 := e4 c8
    try simp (disch := omega) only [w32_of, w64_of, w8_of, decide_eq_true_eq, decide_eq_false_iff_not, Bool.not_eq_true, fR_in, fR_isFar] at c8
    exact wp_some ⟨(by (try dsimp only) <;> first | assumption | omega | ((try simp (disch := omega) only [w32_of, w64_of, w8_of]) <;> first | assumption | omega | (split <;> omega) | (refine And.intro ?_ ?_ <;> split <;> omega)) | omega), hσ_4, frσ_4⟩
  · have k10 := e5 c8
    try simp (disch := omega) only [w32_of, w64_of, w8_of, decide_eq_true_eq, decide_eq_false_iff_not, Bool.not_eq_true, fR_in, fR_isFar] at c8
    refine wp_wfI hσ_4 b_kR_foundMany (by (try dsimp only) <;> first | assumption | omega | ((try simp (disch := omega) only [w32_of, w64_of, w8_of]) <;> first | assumption | omega | (split <;> omega) | (refine And.intro ?_ ?_ <;> split <;> omega)) | omega) (fun σ_7 hσ_7 eσ_7 => ?_)
    try simp (disch := omega) only [w32_of, w64_of, w8_of] at eσ_7
    have flσ_7 := FR_sg eσ_7
    have frσ_7 : FR [kR_foundMany, kR_foundSlot, kR_highX, kR_highY, kR_lowX, kR_lowY, kR_thrown] σ σ_7 := FR_tr frσ_4 flσ_7 (by decide) (by decide)
    refine wp_bx (P := fun rr_ => II rr_.2.2.2 ∧ FR [kR_foundMany, kR_foundSlot, kR_highX, kR_highY, kR_lowX, kR_lowY, kR_thrown] σ rr_.2.2.2) ?_ ?_
    · have c11 := ii_kR_foundMany hσ_7 0
      have c12 := sg_val eσ_7
      refine wp_whl (fun ss_ => II ss_.2.2.2 ∧ FR [kR_foundMany, kR_foundSlot, kR_highX, kR_highY, kR_lowX, kR_lowY, kR_thrown] σ ss_.2.2.2 ∧ (0 ≤ ss_.2.2.1 ∧ ss_.2.2.1 ≤ 32) ∧ (ss_.2.2.2 kR_foundMany 0 = ss_.2.2.1) ∧ (-1 ≤ ss_.2.1 ∧ ss_.2.1 ≤ 31)) (fun ss_ => (33 - ss_.2.2.1).toNat) ⟨hσ_7, frσ_7, (by (try dsimp only) <;> first | assumption | omega | ((try simp (disch := omega) only [w32_of, w64_of, w8_of]) <;> first | assumption | omega | (split <;> omega) | (refine And.intro ?_ ?_ <;> split <;> omega)) | omega), (by (try dsimp only) <;> first | assumption | omega | ((try simp (disch := omega) only [w32_of, w64_of, w8_of]) <;> first | assumption | omega | (split <;> omega) | (refine And.intro ?_ ?_ <;> split <;> omega)) | omega), (by (try dsimp only) <;> first | assumption | omega | ((try simp (disch := omega) only [w32_of, w64_of, w8_of]) <;> first | assumption | omega | (split <;> omega) | (refine And.intro ?_ ?_ <;> split <;> omega)) | omega)⟩ ?_
      rintro ⟨last_8, lastSlot_9, round_10, σ_11⟩ y16
      try dsimp only at y16 ⊢
      obtain ⟨hσ_11, frσ_11, g13, g14, g15⟩ := y16
      have c18 := w32_rng round_10
      refine wp_if (fun c17 => ?_) (fun c17 => ?_)
      · try simp (disch := omega) only [w32_of, w64_of, w8_of, decide_eq_true_eq, decide_eq_false_iff_not, Bool.not_eq_true] at c17
        refine wp_bd (P := fun rr_ => II rr_.2.2.2 ∧ FR [kR_foundMany, kR_foundSlot, kR_highX, kR_highY, kR_lowX, kR_lowY, kR_thrown] σ rr_.2.2.2 ∧ (-1 ≤ rr_.2.1 ∧ rr_.2.1 ≤ 31) ∧ (rr_.2.2.2 kR_foundMany 0 = round_10)) ?_ ?_
        · have c19 := ii_kR_foundMany hσ_11 0
          refine wp_whl (fun ss_ => II ss_.2.2.2 ∧ FR [kR_foundMany, kR_foundSlot, kR_highX, kR_highY, kR_lowX, kR_lowY, kR_thrown] σ ss_.2.2.2 ∧ (0 ≤ ss_.2.2.1 ∧ ss_.2.2.1 ≤ 32) ∧ (-1 ≤ ss_.2.1 ∧ ss_.2.1 ≤ 31) ∧ (ss_.2.2.2 kR_foundMany 0 = round_10)) (fun ss_ => (33 - ss_.2.2.1).toNat) ⟨hσ_11, frσ_11, (by (try dsimp only) <;> first | assumption | omega | ((try simp (disch := omega) only [w32_of, w64_of, w8_of]) <;> first | assumption | omega | (split <;> omega) | (refine And.intro ?_ ?_ <;> split <;> omega)) | omega), (by (try dsimp only) <;> first | assumption | omega | ((try simp (disch := omega) only [w32_of, w64_of, w8_of]) <;> first | assumption | omega | (split <;> omega) | (refine And.intro ?_ ?_ <;> split <;> omega)) | omega), (by (try dsimp only) <;> first | assumption | omega | ((try simp (disch := omega) only [w32_of, w64_of, w8_of]) <;> first | assumption | omega | (split <;> omega) | (refine And.intro ?_ ?_ <;> split <;> omega)) | omega)⟩ ?_
          rintro ⟨best_20, slot_21, s_22, σ_23⟩ y23
          try dsimp only at y23 ⊢
          obtain ⟨hσ_23, frσ_23, g20, g21, g22⟩ := y23
          have c25 := w32_rng s_22
          refine wp_if (fun c24 => ?_) (fun c24 => ?_)
          · try simp (disch := omega) only [w32_of, w64_of, w8_of, decide_eq_true_eq, decide_eq_false_iff_not, Bool.not_eq_true] at c24
            refine wp_bd (s_R_box (σ := σ_23) (slot_0 := s_22) hσ_23 (by (try dsimp only) <;> first | assumption | omega | ((try simp (disch := omega) only [w32_of, w64_of, w8_of]) <;> first | assumption | omega | (split <;> omega) | (refine And.intro ?_ ?_ <;> split <;> omega)) | omega)) ?_
            rintro ⟨x_34, σ_33⟩ - y27
            try dsimp only at y27 ⊢
            obtain ⟨g26, hσ_33, flσ_33⟩ := y27
            have frσ_33 : FR [kR_foundMany, kR_foundSlot, kR_highX, kR_highY, kR_lowX, kR_lowY, kR_thrown] σ σ_33 := FR_tr frσ_23 flσ_33 (by decide) (by decide)
            try simp (disch := omega) only [w32_of, w64_of, w8_of] at g26
            refine wp_if (fun c28 => ?_) (fun c28 => ?_)
            · try simp (disch := omega) only [w32_of, w64_of, w8_of, decide_eq_true_eq, decide_eq_false_iff_not, Bool.not_eq_true] at c28
              refine wp_rdI (by (try dsimp only) <;> first | assumption | omega | ((try simp (disch := omega) only [w32_of, w64_of, w8_of]) <;> first | assumption | omega | (split <;> omega) | (refine And.intro ?_ ?_ <;> split <;> omega)) | omega) (by (try dsimp only) <;> first | assumption | omega | ((try simp (disch := omega) only [w32_of, w64_of, w8_of]) <;> first | assumption | omega | (split <;> omega) | (refine And.intro ?_ ?_ <;> split <;> omega)) | omega) (fun x_36 e_x_36 => ?_)
              have b_x_36 : (-1000000000) ≤ x_36 ∧ x_36 ≤ 4000000000 := by rw [e_x_36]; exact ii_kR_lowX hσ_33 _
              try simp (disch := omega) only [w32_of, w64_of, w8_of] at e_x_36
              have c29 := ii_kR_lowX hσ_33 s_22
              refine wp_rdI (by (try dsimp only) <;> first | assumption | omega | ((try simp (disch := omega) only [w32_of, w64_of, w8_of]) <;> first | assumption | omega | (split <;> omega) | (refine And.intro ?_ ?_ <;> split <;> omega)) | omega) (by (try dsimp only) <;> first | assumption | omega | ((try simp (disch := omega) only [w32_of, w64_of, w8_of]) <;> first | assumption | omega | (split <;> omega) | (refine And.intro ?_ ?_ <;> split <;> omega)) | omega) (fun x_38 e_x_38 => ?_)
              have b_x_38 : (-4000000000) ≤ x_38 ∧ x_38 ≤ 1000000000 := by rw [e_x_38]; exact ii_kR_highX hσ_33 _
              try simp (disch := omega) only [w32_of, w64_of, w8_of] at e_x_38
              have c30 := ii_kR_highX hσ_33 s_22
              refine wp_rdI (by (try dsimp only) <;> first | assumption | omega | ((try simp (disch := omega) only [w32_of, w64_of, w8_of]) <;> first | assumption | omega | (split <;> omega) | (refine And.intro ?_ ?_ <;> split <;> omega)) | omega) (by (try dsimp only) <;> first | assumption | omega | ((try simp (disch := omega) only [w32_of, w64_of, w8_of]) <;> first | assumption | omega | (split <;> omega) | (refine And.intro ?_ ?_ <;> split <;> omega)) | omega) (fun x_40 e_x_40 => ?_)
              have b_x_40 : (-1000000000) ≤ x_40 ∧ x_40 ≤ 4000000000 := by rw [e_x_40]; exact ii_kR_lowY hσ_33 _
              try simp (disch := omega) only [w32_of, w64_of, w8_of] at e_x_40
              have c31 := ii_kR_lowY hσ_33 s_22
              refine wp_rdI (by (try dsimp only) <;> first | assumption | omega | ((try simp (disch := omega) only [w32_of, w64_of, w8_of]) <;> first | assumption | omega | (split <;> omega) | (refine And.intro ?_ ?_ <;> split <;> omega)) | omega) (by (try dsimp only) <;> first | assumption | omega | ((try simp (disch := omega) only [w32_of, w64_of, w8_of]) <;> first | assumption | omega | (split <;> omega) | (refine And.intro ?_ ?_ <;> split <;> omega)) | omega) (fun x_42 e_x_42 => ?_)
              have b_x_42 : (-4000000000) ≤ x_42 ∧ x_42 ≤ 1000000000 := by rw [e_x_42]; exact ii_kR_highY hσ_33 _
              try simp (disch := omega) only [w32_of, w64_of, w8_of] at e_x_42
              have c32 := ii_kR_highY hσ_33 s_22
              refine wp_lt (fun x_44 e_x_44 => ?_)
              try simp (disch := omega) only [w32_of, w64_of, w8_of] at e_x_44
              have c33 := w64_rng last_8
              have c34 := w64_rng x_44
              have c35 := w32_rng lastSlot_9
              refine wp_lt (fun x_46 e_x_46 => ?_)
              try simp (disch := omega) only [w32_of, w64_of, w8_of] at e_x_46
              have c37 := w32_rng slot_21
              have c38 := w64_rng best_20
              refine wp_if (fun c36 => ?_) (fun c36 => ?_)
              · try simp (disch := omega) only [w32_of, w64_of, w8_of, decide_eq_true_eq, decide_eq_false_iff_not, Bool.not_eq_true] at c36
                have c39 := ii_kR_foundMany hσ_33 0
                have c40 := FR_at flσ_33 (c := kR_foundMany) (by decide) 0
                have c41 := ii_kR_foundMany hσ_23 0
                exact wp_some (x_inl ⟨⟨hσ_33, frσ_33, (by (try dsimp only) <;> first | assumption | omega | ((try simp (disch := omega) only [w32_of, w64_of, w8_of]) <;> first | assumption | omega | (split <;> omega) | (refine And.intro ?_ ?_ <;> split <;> omega)) | omega), (by (try dsimp only) <;> first | assumption | omega | ((try simp (disch := omega) only [w32_of, w64_of, w8_of]) <;> first | assumption | omega | (split <;> omega) | (refine And.intro ?_ ?_ <;> split <;> omega)) | omega), (by (try dsimp only) <;> first | assumption | omega | ((try simp (disch := omega) only [w32_of, w64_of, w8_of]) <;> first | assumption | omega | (split <;> omega) | (refine And.intro ?_ ?_ <;> split <;> omega)) | omega)⟩, (by (try dsimp only) <;> first | assumption | omega | ((try simp (disch := omega) only [w32_of, w64_of, w8_of]) <;> first | assumption | omega | (split <;> omega) | (refine And.intro ?_ ?_ <;> split <;> omega)) | omega)⟩)
              · try simp (disch := omega) only [w32_of, w64_of, w8_of, decide_eq_true_eq, decide_eq_false_iff_not, Bool.not_eq_true] at c36
                have c42 := ii_kR_foundMany hσ_33 0
                have c43 := FR_at flσ_33 (c := kR_foundMany) (by decide) 0
                have c44 := ii_kR_foundMany hσ_23 0
                exact wp_some (x_inl ⟨⟨hσ_33, frσ_33, (by (try dsimp only) <;> first | assumption | omega | ((try simp (disch := omega) only [w32_of, w64_of, w8_of]) <;> first | assumption | omega | (split <;> omega) | (refine And.intro ?_ ?_ <;> split <;> omega)) | omega), (by (try dsimp only) <;> first | assumption | omega | ((try simp (disch := omega) only [w32_of, w64_of, w8_of]) <;> first | assumption | omega | (split <;> omega) | (refine And.intro ?_ ?_ <;> split <;> omega)) | omega), (by (try dsimp only) <;> first | assumption | omega | ((try simp (disch := omega) only [w32_of, w64_of, w8_of]) <;> first | assumption | omega | (split <;> omega) | (refine And.intro ?_ ?_ <;> split <;> omega)) | omega)⟩, (by (try dsimp only) <;> first | assumption | omega | ((try simp (disch := omega) only [w32_of, w64_of, w8_of]) <;> first | assumption | omega | (split <;> omega) | (refine And.intro ?_ ?_ <;> split <;> omega)) | omega)⟩)
            · try simp (disch := omega) only [w32_of, w64_of, w8_of, decide_eq_true_eq, decide_eq_false_iff_not, Bool.not_eq_true] at c28
              have c45 := ii_kR_foundMany hσ_33 0
              have c46 := FR_at flσ_33 (c := kR_foundMany) (by decide) 0
              have c47 := ii_kR_foundMany hσ_23 0
              exact wp_some (x_inl ⟨⟨hσ_33, frσ_33, (by (try dsimp only) <;> first | assumption | omega | ((try simp (disch := omega) only [w32_of, w64_of, w8_of]) <;> first | assumption | omega | (split <;> omega) | (refine And.intro ?_ ?_ <;> split <;> omega)) | omega), (by (try dsimp only) <;> first | assumption | omega | ((try simp (disch := omega) only [w32_of, w64_of, w8_of]) <;> first | assumption | omega | (split <;> omega) | (refine And.intro ?_ ?_ <;> split <;> omega)) | omega), (by (try dsimp only) <;> first | assumption | omega | ((try simp (disch := omega) only [w32_of, w64_of, w8_of]) <;> first | assumption | omega | (split <;> omega) | (refine And.intro ?_ ?_ <;> split <;> omega)) | omega)⟩, (by (try dsimp only) <;> first | assumption | omega | ((try simp (disch := omega) only [w32_of, w64_of, w8_of]) <;> first | assumption | omega | (split <;> omega) | (refine And.intro ?_ ?_ <;> split <;> omega)) | omega)⟩)
          · try simp (disch := omega) only [w32_of, w64_of, w8_of, decide_eq_true_eq, decide_eq_false_iff_not, Bool.not_eq_true] at c24
            have c48 := ii_kR_foundMany hσ_23 0
            exact wp_some (x_inr ⟨hσ_23, frσ_23, (by (try dsimp only) <;> first | assumption | omega | ((try simp (disch := omega) only [w32_of, w64_of, w8_of]) <;> first | assumption | omega | (split <;> omega) | (refine And.intro ?_ ?_ <;> split <;> omega)) | omega), (by (try dsimp only) <;> first | assumption | omega | ((try simp (disch := omega) only [w32_of, w64_of, w8_of]) <;> first | assumption | omega | (split <;> omega) | (refine And.intro ?_ ?_ <;> split <;> omega)) | omega)⟩)
        rintro ⟨best_63, slot_64, s_65, σ_66⟩ _ y51
        try dsimp only at y51 ⊢
        obtain ⟨hσ_66, frσ_66, g49, g50⟩ := y51
        have c53 := w32_rng slot_64
        refine wp_if (fun c52 => ?_) (fun c52 => ?_)
        · try simp (disch := omega) only [w32_of, w64_of, w8_of, decide_eq_true_eq, decide_eq_false_iff_not, Bool.not_eq_true] at c52
          have c54 := ii_kR_foundMany hσ_66 0
          exact wp_some (x_inr (x_inr ⟨(by (try dsimp only) <;> first | assumption | omega | ((try simp (disch := omega) only [w32_of, w64_of, w8_of]) <;> first | assumption | omega | (split <;> omega) | (refine And.intro ?_ ?_ <;> split <;> omega)) | omega), hσ_66, frσ_66⟩))
        · try simp (disch := omega) only [w32_of, w64_of, w8_of, decide_eq_true_eq, decide_eq_false_iff_not, Bool.not_eq_true] at c52
          have c55 := ii_kR_foundMany hσ_66 0
          have c56 := w32_rng (σ_66 kR_foundMany 0)
          refine wp_waI hσ_66 b_kR_foundSlot (by (try dsimp only) <;> first | assumption | omega | ((try simp (disch := omega) only [w32_of, w64_of, w8_of]) <;> first | assumption | omega | (split <;> omega) | (refine And.intro ?_ ?_ <;> split <;> omega)) | omega) (by (try dsimp only) <;> first | assumption | omega | ((try simp (disch := omega) only [w32_of, w64_of, w8_of]) <;> first | assumption | omega | (split <;> omega) | (refine And.intro ?_ ?_ <;> split <;> omega)) | omega) (by (try dsimp only) <;> first | assumption | omega | ((try simp (disch := omega) only [w32_of, w64_of, w8_of]) <;> first | assumption | omega | (split <;> omega) | (refine And.intro ?_ ?_ <;> split <;> omega)) | omega) (fun σ_68 hσ_68 eσ_68 => ?_)
          try simp (disch := omega) only [w32_of, w64_of, w8_of] at eσ_68
          have flσ_68 := FR_sg eσ_68
          have frσ_68 : FR [kR_foundMany, kR_foundSlot, kR_highX, kR_highY, kR_lowX, kR_lowY, kR_thrown] σ σ_68 := FR_tr frσ_66 flσ_68 (by decide) (by decide)
          have c57 := ii_kR_foundMany hσ_68 0
          have c58 := FR_at flσ_68 (c := kR_foundMany) (by decide) 0
          refine wp_wfI hσ_68 b_kR_foundMany (by (try dsimp only) <;> first | assumption | omega | ((try simp (disch := omega) only [w32_of, w64_of, w8_of]) <;> first | assumption | omega | (split <;> omega) | (refine And.intro ?_ ?_ <;> split <;> omega)) | omega) (fun σ_70 hσ_70 eσ_70 => ?_)
          try simp (disch := omega) only [w32_of, w64_of, w8_of] at eσ_70
          have flσ_70 := FR_sg eσ_70
          have frσ_70 : FR [kR_foundMany, kR_foundSlot, kR_highX, kR_highY, kR_lowX, kR_lowY, kR_thrown] σ σ_70 := FR_tr frσ_68 flσ_70 (by decide) (by decide)
          have c59 := ii_kR_foundMany hσ_70 0
          have c60 := sg_val eσ_70
          exact wp_some (x_inl ⟨⟨hσ_70, frσ_70, (by (try dsimp only) <;> first | assumption | omega | ((try simp (disch := omega) only [w32_of, w64_of, w8_of]) <;> first | assumption | omega | (split <;> omega) | (refine And.intro ?_ ?_ <;> split <;> omega)) | omega), (by (try dsimp only) <;> first | assumption | omega | ((try simp (disch := omega) only [w32_of, w64_of, w8_of]) <;> first | assumption | omega | (split <;> omega) | (refine And.intro ?_ ?_ <;> split <;> omega)) | omega), (by (try dsimp only) <;> first | assumption | omega | ((try simp (disch := omega) only [w32_of, w64_of, w8_of]) <;> first | assumption | omega | (split <;> omega) | (refine And.intro ?_ ?_ <;> split <;> omega)) | omega)⟩, (by (try dsimp only) <;> first | assumption | omega | ((try simp (disch := omega) only [w32_of, w64_of, w8_of]) <;> first | assumption | omega | (split <;> omega) | (refine And.intro ?_ ?_ <;> split <;> omega)) | omega)⟩)
      · try simp (disch := omega) only [w32_of, w64_of, w8_of, decide_eq_true_eq, decide_eq_false_iff_not, Bool.not_eq_true] at c17
        exact wp_some (x_inr (x_inl ⟨hσ_11, frσ_11⟩))
    rintro ⟨last_74, lastSlot_75, round_76, σ_77⟩ y61
    try dsimp only at y61 ⊢
    obtain ⟨hσ_77, frσ_77⟩ := y61
    have c62 := ii_kR_foundMany hσ_77 0
    exact wp_some ⟨(by (try dsimp only) <;> first | assumption | omega | ((try simp (disch := omega) only [w32_of, w64_of, w8_of]) <;> first | assumption | omega | (split <;> omega) | (refine And.intro ?_ ?_ <;> split <;> omega)) | omega), hσ_77, frσ_77⟩
theorem v_copy {σ : SG} {from_0 : Int} {to_0 : Int} (hσ : II σ) (qfrom_0 : (-2147483648) ≤ from_0 ∧ from_0 ≤ 2147483647) (qto_0 : (-2147483648) ≤ to_0 ∧ to_0 ≤ 2147483647) (w0 : SHs σ) : wp_ (fR_copy σ from_0 to_0) (fun zz_ => II zz_.2 ∧ FR [kR_plan, kR_planMany, kR_pointMany, kR_thrown, kR_xs, kR_ys] σ zz_.2 ∧ (SHs zz_.2)) := by
  unfold fR_copy
  refine wp_wfI hσ b_kR_thrown (by (try dsimp only) <;> first | assumption | omega | ((try simp (disch := omega) only [w32_of, w64_of, w8_of]) <;> first | assumption | omega | (split <;> omega) | (refine And.intro ?_ ?_ <;> split <;> omega)) | omega) (fun σ_1 hσ_1 eσ_1 => ?_)
  try simp (disch := omega) only [w32_of, w64_of, w8_of] at eσ_1
  have flσ_1 := FR_sg eσ_1
  have frσ_1 : FR [kR_plan, kR_planMany, kR_pointMany, kR_thrown, kR_xs, kR_ys] σ σ_1 := FR_le flσ_1 (by decide)
  have c3 := ii_kR_thrown hσ_1 0
  have c4 := sg_val eσ_1
  refine wp_fails hσ_1 (by (try dsimp only) <;> first | assumption | omega | ((try simp (disch := omega) only [w32_of, w64_of, w8_of]) <;> first | assumption | omega | (split <;> omega) | (refine And.intro ?_ ?_ <;> split <;> omega)) | omega) (by decide) (fun σ_28 hσ_28 flσ_28 e1 e2 => ?_)
  try dsimp only
  have frσ_28 : FR [kR_plan, kR_planMany, kR_pointMany, kR_thrown, kR_xs, kR_ys] σ σ_28 := FR_tr frσ_1 flσ_28 (by decide) (by decide)
  have s28 : SHs σ_28 := SHs_f flσ_28 (by decide) (SHs_f flσ_1 (by decide) w0)
  refine wp_if (fun c5 => ?_) (fun c5 => ?_)
  · have k6 := e1 c5
    try simp (disch := omega) only [w32_of, w64_of, w8_of, decide_eq_true_eq, decide_eq_false_iff_not, Bool.not_eq_true, fR_isSlot] at c5
    exact wp_some ⟨hσ_28, frσ_28, (by (try dsimp only) <;> (first | exact s50 | exact s38 | exact s28))⟩
  · have k7 := e2 c5
    try simp (disch := omega) only [w32_of, w64_of, w8_of, decide_eq_true_eq, decide_eq_false_iff_not, Bool.not_eq_true, fR_isSlot] at c5
    refine wp_bdk ?_
    refine wp_bd (v_has (σ := σ_28) (slot_0 := from_0) hσ_28 (by (try dsimp only) <;> first | assumption | omega | ((try simp (disch := omega) only [w32_of, w64_of, w8_of]) <;> first | assumption | omega | (split <;> omega) | (refine And.intro ?_ ?_ <;> split <;> omega)) | omega)) ?_
    rintro x_32 - g8
    have c9 := ii_kR_planMany hσ_28 from_0
    have c10 := FR_at flσ_28 (c := kR_planMany) (by decide) from_0
    have c11 := ii_kR_planMany hσ_1 from_0
    have c12 := FR_at flσ_1 (c := kR_planMany) (by decide) from_0
    have c13 := ii_kR_planMany hσ from_0
    try simp (disch := omega) only [w32_of, w64_of, w8_of] at g8
    refine wp_if (fun c14 => ?_) (fun c14 => ?_)
    · have k15 := g8.mp c14
      try simp (disch := omega) only [w32_of, w64_of, w8_of] at k15
      try simp (disch := omega) only [w32_of, w64_of, w8_of, decide_eq_true_eq, decide_eq_false_iff_not, Bool.not_eq_true] at c14
      refine wp_somek ?_
      try dsimp only
      have c18 := ii_kR_thrown hσ_28 0
      refine wp_fails hσ_28 (by (try dsimp only) <;> first | assumption | omega | ((try simp (disch := omega) only [w32_of, w64_of, w8_of]) <;> first | assumption | omega | (split <;> omega) | (refine And.intro ?_ ?_ <;> split <;> omega)) | omega) (by decide) (fun σ_38 hσ_38 flσ_38 e16 e17 => ?_)
      try dsimp only
      have frσ_38 : FR [kR_plan, kR_planMany, kR_pointMany, kR_thrown, kR_xs, kR_ys] σ σ_38 := FR_tr frσ_28 flσ_38 (by decide) (by decide)
      have k19 := e17 (by decide)
      have s38 : SHs σ_38 := SHs_f flσ_38 (by decide) s28
      refine wp_ft ?_
      refine wp_bd (P := fun rr_ => II rr_ ∧ FR [kR_plan, kR_planMany, kR_pointMany, kR_thrown, kR_xs, kR_ys] σ rr_ ∧ (SHs rr_)) ?_ ?_
      · have c21 := w32_rng from_0
        have c22 := w32_rng to_0
        refine wp_if (fun c20 => ?_) (fun c20 => ?_)
        · try simp (disch := omega) only [w32_of, w64_of, w8_of, decide_eq_true_eq, decide_eq_false_iff_not, Bool.not_eq_true] at c20
          refine wp_bd (v_move (σ := σ_38) (from_0 := from_0) (to_0 := to_0) hσ_38 (by (try dsimp only) <;> first | assumption | omega | ((try simp (disch := omega) only [w32_of, w64_of, w8_of]) <;> first | assumption | omega | (split <;> omega) | (refine And.intro ?_ ?_ <;> split <;> omega)) | omega) (by (try dsimp only) <;> first | assumption | omega | ((try simp (disch := omega) only [w32_of, w64_of, w8_of]) <;> first | assumption | omega | (split <;> omega) | (refine And.intro ?_ ?_ <;> split <;> omega)) | omega) (by (try dsimp only) <;> first | assumption | omega | ((try simp (disch := omega) only [w32_of, w64_of, w8_of]) <;> first | assumption | omega | (split <;> omega) | (refine And.intro ?_ ?_ <;> split <;> omega)) | omega)) ?_
          rintro σ_47 - ⟨hσ_47, flσ_47, gm⟩
          have frσ_47 : FR [kR_plan, kR_planMany, kR_pointMany, kR_thrown, kR_xs, kR_ys] σ σ_47 := FR_tr frσ_38 flσ_47 (by decide) (by decide)
          try simp (disch := omega) only [w32_of, w64_of, w8_of] at gm
          have s47 : SHs σ_47 := MV_SHs hσ_38 gm (s38 _ (by omega) (by omega)) s38
          exact wp_some ⟨hσ_47, frσ_47, (by (try dsimp only) <;> (first | exact s47 | exact s38))⟩
        · try simp (disch := omega) only [w32_of, w64_of, w8_of, decide_eq_true_eq, decide_eq_false_iff_not, Bool.not_eq_true] at c20
          exact wp_some ⟨hσ_38, frσ_38, (by (try dsimp only) <;> (first | exact s47 | exact s38))⟩
      rintro σ_50 _ ⟨hσ_50, frσ_50, s50⟩
      have c23 := w32_rng (2048 * to_0)
      refine wp_rdI (by (try dsimp only) <;> first | assumption | omega | ((try simp (disch := omega) only [w32_of, w64_of, w8_of]) <;> first | assumption | omega | (split <;> omega) | (refine And.intro ?_ ?_ <;> split <;> omega)) | omega) (by (try dsimp only) <;> first | assumption | omega | ((try simp (disch := omega) only [w32_of, w64_of, w8_of]) <;> first | assumption | omega | (split <;> omega) | (refine And.intro ?_ ?_ <;> split <;> omega)) | omega) (fun x_51 e_x_51 => ?_)
      try simp (disch := omega) only [w32_of, w64_of, w8_of] at e_x_51
      exact wp_some ⟨hσ_50, frσ_50, (by (try dsimp only) <;> (first | exact s50 | exact s38 | exact s28))⟩
    · have k24 := fun q => c14 (g8.mpr q)
      try simp (disch := omega) only [w32_of, w64_of, w8_of] at k24
      try simp (disch := omega) only [w32_of, w64_of, w8_of, decide_eq_true_eq, decide_eq_false_iff_not, Bool.not_eq_true] at c14
      refine wp_somek ?_
      try dsimp only
      have c27 := ii_kR_thrown hσ_28 0
      refine wp_fails hσ_28 (by (try dsimp only) <;> first | assumption | omega | ((try simp (disch := omega) only [w32_of, w64_of, w8_of]) <;> first | assumption | omega | (split <;> omega) | (refine And.intro ?_ ?_ <;> split <;> omega)) | omega) (by decide) (fun σ_38 hσ_38 flσ_38 e25 e26 => ?_)
      try dsimp only
      have frσ_38 : FR [kR_plan, kR_planMany, kR_pointMany, kR_thrown, kR_xs, kR_ys] σ σ_38 := FR_tr frσ_28 flσ_38 (by decide) (by decide)
      have k28 := e25 rfl
      have s38 : SHs σ_38 := SHs_f flσ_38 (by decide) s28
      refine wp_tt ?_
      exact wp_some ⟨hσ_38, frσ_38, (by (try dsimp only) <;> (first | exact s50 | exact s38 | exact s28))⟩
theorem v_drop {σ : SG} {slot_0 : Int} (hσ : II σ) (qslot_0 : (-2147483648) ≤ slot_0 ∧ slot_0 ≤ 2147483647) (w0 : SHs σ) : wp_ (fR_drop σ slot_0) (fun zz_ => II zz_.2 ∧ FR [kR_planMany, kR_pointMany, kR_thrown] σ zz_.2 ∧ (SHs zz_.2)) := by
  unfold fR_drop
  refine wp_wfI hσ b_kR_thrown (by (try dsimp only) <;> first | assumption | omega | ((try simp (disch := omega) only [w32_of, w64_of, w8_of]) <;> first | assumption | omega | (split <;> omega) | (refine And.intro ?_ ?_ <;> split <;> omega)) | omega) (fun σ_1 hσ_1 eσ_1 => ?_)
  try simp (disch := omega) only [w32_of, w64_of, w8_of] at eσ_1
  have flσ_1 := FR_sg eσ_1
  have frσ_1 : FR [kR_planMany, kR_pointMany, kR_thrown] σ σ_1 := FR_le flσ_1 (by decide)
  have c3 := ii_kR_thrown hσ_1 0
  have c4 := sg_val eσ_1
  refine wp_fails hσ_1 (by (try dsimp only) <;> first | assumption | omega | ((try simp (disch := omega) only [w32_of, w64_of, w8_of]) <;> first | assumption | omega | (split <;> omega) | (refine And.intro ?_ ?_ <;> split <;> omega)) | omega) (by decide) (fun σ_4 hσ_4 flσ_4 e1 e2 => ?_)
  try dsimp only
  have frσ_4 : FR [kR_planMany, kR_pointMany, kR_thrown] σ σ_4 := FR_tr frσ_1 flσ_4 (by decide) (by decide)
  have s4 : SHs σ_4 := SHs_f flσ_4 (by decide) (SHs_f flσ_1 (by decide) w0)
  refine wp_if (fun c5 => ?_) (fun c5 => ?_)
  · have k6 := e1 c5
    try simp (disch := omega) only [w32_of, w64_of, w8_of, decide_eq_true_eq, decide_eq_false_iff_not, Bool.not_eq_true, fR_isSlot] at c5
    exact wp_some ⟨hσ_4, frσ_4, (by (try dsimp only) <;> (first | exact s10 | exact s4))⟩
  · have k7 := e2 c5
    try simp (disch := omega) only [w32_of, w64_of, w8_of, decide_eq_true_eq, decide_eq_false_iff_not, Bool.not_eq_true, fR_isSlot] at c5
    refine wp_bd (v_has (σ := σ_4) (slot_0 := slot_0) hσ_4 (by (try dsimp only) <;> first | assumption | omega | ((try simp (disch := omega) only [w32_of, w64_of, w8_of]) <;> first | assumption | omega | (split <;> omega) | (refine And.intro ?_ ?_ <;> split <;> omega)) | omega)) ?_
    rintro x_8 - g8
    have c9 := ii_kR_planMany hσ_4 slot_0
    have c10 := FR_at flσ_4 (c := kR_planMany) (by decide) slot_0
    have c11 := ii_kR_planMany hσ_1 slot_0
    have c12 := FR_at flσ_1 (c := kR_planMany) (by decide) slot_0
    have c13 := ii_kR_planMany hσ slot_0
    try simp (disch := omega) only [w32_of, w64_of, w8_of] at g8
    refine wp_bd (v_clear (σ := σ_4) (slot_0 := slot_0) hσ_4 (by (try dsimp only) <;> first | assumption | omega | ((try simp (disch := omega) only [w32_of, w64_of, w8_of]) <;> first | assumption | omega | (split <;> omega) | (refine And.intro ?_ ?_ <;> split <;> omega)) | omega)) ?_
    rintro σ_10 - ⟨hσ_10, flσ_10, gc1, gc2, gc3⟩
    have frσ_10 : FR [kR_planMany, kR_pointMany, kR_thrown] σ σ_10 := FR_tr frσ_4 flσ_10 (by decide) (by decide)
    have c14 := ii_kR_planMany hσ_10 slot_0
    try simp (disch := omega) only [w32_of, w64_of, w8_of] at gc1
    have c15 := ii_kR_pointMany hσ_10 slot_0
    try simp (disch := omega) only [w32_of, w64_of, w8_of] at gc2
    try simp (disch := omega) only [w32_of, w64_of, w8_of] at gc3
    have s10 : SHs σ_10 := SHs_clear (FR_at flσ_10 (c := kR_plan) (by decide)) ⟨gc1, gc2⟩ gc3 s4
    exact wp_some ⟨hσ_10, frσ_10, (by (try dsimp only) <;> (first | exact s10 | exact s4))⟩
