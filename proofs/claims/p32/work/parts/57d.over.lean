theorem v_isNear {σ : SG} {slot_0 : Int} (hσ : II σ) (qslot_0 : 0 ≤ slot_0 ∧ slot_0 ≤ 31) : wp_ (fR_isNear σ slot_0) (fun zz_ => ((zz_ = true) → NRs σ slot_0)) := by
  unfold fR_isNear
  refine wp_bd (P := fun rr_ => (0 ≤ rr_.2 ∧ rr_.2 ≤ 65536) ∧ ((rr_.1 = true) → NRs σ slot_0)) ?_ ?_
  · refine wp_whl (fun ss_ => (0 ≤ ss_.2 ∧ ss_.2 ≤ 65536) ∧ (2048 * slot_0 ≤ ss_.2) ∧ ((ss_.1 = true) → ∀ i, 2048 * slot_0 ≤ i → i < ss_.2 → ((-500000000 ≤ σ kR_xs i ∧ σ kR_xs i ≤ 500000000) ∧ (-500000000 ≤ σ kR_ys i ∧ σ kR_ys i ≤ 500000000)))) (fun ss_ => (65537 - ss_.2).toNat) ⟨(by (try dsimp only) <;> first | assumption | omega | ((try simp (disch := omega) only [w32_of, w64_of, w8_of]) <;> first | assumption | omega | (split <;> omega) | (refine And.intro ?_ ?_ <;> split <;> omega)) | omega), (by (try dsimp only) <;> first | assumption | omega | ((try simp (disch := omega) only [w32_of, w64_of, w8_of]) <;> first | assumption | omega | (split <;> omega) | (refine And.intro ?_ ?_ <;> split <;> omega)) | omega), (by (try dsimp only) <;> (first | (intro _ i a b; exact absurd b (by omega)) | (intro h i a b; obtain ⟨h1, h2, h3⟩ := gx h; by_cases q : i = k_2 <;> first | (rw [q]; exact ⟨h2, h3⟩) | exact gn h1 i a (by omega))))⟩ ?_
    rintro ⟨near_1, k_2⟩ y3
    try dsimp only at y3 ⊢
    obtain ⟨g1, g2, gn⟩ := y3
    have c4 := w32_rng slot_0
    refine wp_rdI (by (try dsimp only) <;> first | assumption | omega | ((try simp (disch := omega) only [w32_of, w64_of, w8_of]) <;> first | assumption | omega | (split <;> omega) | (refine And.intro ?_ ?_ <;> split <;> omega)) | omega) (by (try dsimp only) <;> first | assumption | omega | ((try simp (disch := omega) only [w32_of, w64_of, w8_of]) <;> first | assumption | omega | (split <;> omega) | (refine And.intro ?_ ?_ <;> split <;> omega)) | omega) (fun x_10 e_x_10 => ?_)
    have b_x_10 : 0 ≤ x_10 ∧ x_10 ≤ 2048 := by rw [e_x_10]; exact ii_kR_pointMany hσ _
    try simp (disch := omega) only [w32_of, w64_of, w8_of] at e_x_10
    have c5 := ii_kR_pointMany hσ slot_0
    have c7 := w32_rng k_2
    have c8 := w32_rng ((2048 * slot_0) + x_10)
    refine wp_if (fun c6 => ?_) (fun c6 => ?_)
    · try simp (disch := omega) only [w32_of, w64_of, w8_of, decide_eq_true_eq, decide_eq_false_iff_not, Bool.not_eq_true] at c6
      refine wp_bd (P := fun rr_ => ((rr_ = true) → near_1 = true ∧ (-500000000 ≤ σ kR_xs k_2 ∧ σ kR_xs k_2 ≤ 500000000) ∧ (-500000000 ≤ σ kR_ys k_2 ∧ σ kR_ys k_2 ≤ 500000000))) ?_ ?_
      · refine wp_if (fun c9 => ?_) (fun c9 => ?_)
        · have k10 := gn c9
          try simp (disch := omega) only [w32_of, w64_of, w8_of] at k10
          try simp (disch := omega) only [w32_of, w64_of, w8_of, decide_eq_true_eq, decide_eq_false_iff_not, Bool.not_eq_true] at c9
          refine wp_rdI (by (try dsimp only) <;> first | assumption | omega | ((try simp (disch := omega) only [w32_of, w64_of, w8_of]) <;> first | assumption | omega | (split <;> omega) | (refine And.intro ?_ ?_ <;> split <;> omega)) | omega) (by (try dsimp only) <;> first | assumption | omega | ((try simp (disch := omega) only [w32_of, w64_of, w8_of]) <;> first | assumption | omega | (split <;> omega) | (refine And.intro ?_ ?_ <;> split <;> omega)) | omega) (fun x_14 e_x_14 => ?_)
          have b_x_14 : (-1000000000) ≤ x_14 ∧ x_14 ≤ 1000000000 := by rw [e_x_14]; exact ii_kR_xs hσ _
          try simp (disch := omega) only [w32_of, w64_of, w8_of] at e_x_14
          have c11 := ii_kR_xs hσ k_2
          have c13 := w32_rng x_14
          refine wp_if (fun c12 => ?_) (fun c12 => ?_)
          · try simp (disch := omega) only [w32_of, w64_of, w8_of, decide_eq_true_eq, decide_eq_false_iff_not, Bool.not_eq_true, fR_in] at c12
            refine wp_rdI (by (try dsimp only) <;> first | assumption | omega | ((try simp (disch := omega) only [w32_of, w64_of, w8_of]) <;> first | assumption | omega | (split <;> omega) | (refine And.intro ?_ ?_ <;> split <;> omega)) | omega) (by (try dsimp only) <;> first | assumption | omega | ((try simp (disch := omega) only [w32_of, w64_of, w8_of]) <;> first | assumption | omega | (split <;> omega) | (refine And.intro ?_ ?_ <;> split <;> omega)) | omega) (fun x_17 e_x_17 => ?_)
            have b_x_17 : (-1000000000) ≤ x_17 ∧ x_17 ≤ 1000000000 := by rw [e_x_17]; exact ii_kR_ys hσ _
            try simp (disch := omega) only [w32_of, w64_of, w8_of] at e_x_17
            have c14 := ii_kR_ys hσ k_2
            have c16 := w32_rng x_17
            refine wp_if (fun c15 => ?_) (fun c15 => ?_)
            · try simp (disch := omega) only [w32_of, w64_of, w8_of, decide_eq_true_eq, decide_eq_false_iff_not, Bool.not_eq_true, fR_in] at c15
              exact wp_some (by (try dsimp only) <;> (first | (intro h; exact absurd h (by decide)) | (intro _; exact ⟨by assumption, by omega, by omega⟩)))
            · try simp (disch := omega) only [w32_of, w64_of, w8_of, decide_eq_true_eq, decide_eq_false_iff_not, Bool.not_eq_true, fR_in] at c15
              exact wp_some (fun q => (by cases q))
          · try simp (disch := omega) only [w32_of, w64_of, w8_of, decide_eq_true_eq, decide_eq_false_iff_not, Bool.not_eq_true, fR_in] at c12
            have c17 := ii_kR_ys hσ k_2
            exact wp_some (fun q => (by cases q))
        · try simp (disch := omega) only [w32_of, w64_of, w8_of, decide_eq_true_eq, decide_eq_false_iff_not, Bool.not_eq_true] at c9
          have c19 := ii_kR_xs hσ k_2
          have c20 := ii_kR_ys hσ k_2
          exact wp_some (fun q => (by cases q))
      rintro x_24 _ gx
      exact wp_some (x_inl ⟨⟨(by (try dsimp only) <;> first | assumption | omega | ((try simp (disch := omega) only [w32_of, w64_of, w8_of]) <;> first | assumption | omega | (split <;> omega) | (refine And.intro ?_ ?_ <;> split <;> omega)) | omega), (by (try dsimp only) <;> first | assumption | omega | ((try simp (disch := omega) only [w32_of, w64_of, w8_of]) <;> first | assumption | omega | (split <;> omega) | (refine And.intro ?_ ?_ <;> split <;> omega)) | omega), (by (try dsimp only) <;> (first | (intro _ i a b; exact absurd b (by omega)) | (intro h i a b; obtain ⟨h1, h2, h3⟩ := gx h; by_cases q : i = k_2 <;> first | (rw [q]; exact ⟨h2, h3⟩) | exact gn h1 i a (by omega))))⟩, (by (try dsimp only) <;> first | assumption | omega | ((try simp (disch := omega) only [w32_of, w64_of, w8_of]) <;> first | assumption | omega | (split <;> omega) | (refine And.intro ?_ ?_ <;> split <;> omega)) | omega)⟩)
    · try simp (disch := omega) only [w32_of, w64_of, w8_of, decide_eq_true_eq, decide_eq_false_iff_not, Bool.not_eq_true] at c6
      exact wp_some (x_inr ⟨(by (try dsimp only) <;> first | assumption | omega | ((try simp (disch := omega) only [w32_of, w64_of, w8_of]) <;> first | assumption | omega | (split <;> omega) | (refine And.intro ?_ ?_ <;> split <;> omega)) | omega), (by (try dsimp only) <;> (intro h i a b; exact gn h i a (by omega)))⟩)
  rintro ⟨near_31, k_32⟩ _ y23
  try dsimp only at y23 ⊢
  obtain ⟨g21, g22⟩ := y23
  exact wp_some (by (try dsimp only) <;> (assumption))
theorem v_isLaid {σ : SG} {slot_0 : Int} (hσ : II σ) (qslot_0 : 0 ≤ slot_0 ∧ slot_0 ≤ 31) : wp_ (fR_isLaid σ slot_0) (fun zz_ => ((zz_ = true) → NRs σ slot_0)) := by
  unfold fR_isLaid
  have c1 := w32_rng (2048 * slot_0)
  refine wp_rdI (by (try dsimp only) <;> first | assumption | omega | ((try simp (disch := omega) only [w32_of, w64_of, w8_of]) <;> first | assumption | omega | (split <;> omega) | (refine And.intro ?_ ?_ <;> split <;> omega)) | omega) (by (try dsimp only) <;> first | assumption | omega | ((try simp (disch := omega) only [w32_of, w64_of, w8_of]) <;> first | assumption | omega | (split <;> omega) | (refine And.intro ?_ ?_ <;> split <;> omega)) | omega) (fun x_1 e_x_1 => ?_)
  try simp (disch := omega) only [w32_of, w64_of, w8_of] at e_x_1
  refine wp_bdk ?_
  have c3 := w32_rng x_1
  refine wp_if (fun c2 => ?_) (fun c2 => ?_)
  · try simp (disch := omega) only [w32_of, w64_of, w8_of, decide_eq_true_eq, decide_eq_false_iff_not, Bool.not_eq_true] at c2
    refine wp_bd (v_isNear (σ := σ) (slot_0 := slot_0) hσ (by (try dsimp only) <;> first | assumption | omega | ((try simp (disch := omega) only [w32_of, w64_of, w8_of]) <;> first | assumption | omega | (split <;> omega) | (refine And.intro ?_ ?_ <;> split <;> omega)) | omega)) ?_
    rintro x_5 - gn
    try simp (disch := omega) only [w32_of, w64_of, w8_of] at gn
    refine wp_if (fun c4 => ?_) (fun c4 => ?_)
    · have k5 := gn c4
      try simp (disch := omega) only [w32_of, w64_of, w8_of] at k5
      try simp (disch := omega) only [w32_of, w64_of, w8_of, decide_eq_true_eq, decide_eq_false_iff_not, Bool.not_eq_true] at c4
      refine wp_somek ?_
      try dsimp only
      exact wp_some (by (try dsimp only) <;> (first | (intro h; exact absurd h (by decide)) | (intro _; exact gn (by assumption))))
    · try simp (disch := omega) only [w32_of, w64_of, w8_of, decide_eq_true_eq, decide_eq_false_iff_not, Bool.not_eq_true] at c4
      refine wp_somek ?_
      try dsimp only
      exact wp_some (fun q => (by cases q))
  · try simp (disch := omega) only [w32_of, w64_of, w8_of, decide_eq_true_eq, decide_eq_false_iff_not, Bool.not_eq_true] at c2
    refine wp_if (fun c7 => ?_) (fun c7 => ?_)
    · try simp (disch := omega) only [w32_of, w64_of, w8_of, decide_eq_true_eq, decide_eq_false_iff_not, Bool.not_eq_true] at c7
      refine wp_bd (v_isNear (σ := σ) (slot_0 := slot_0) hσ (by (try dsimp only) <;> first | assumption | omega | ((try simp (disch := omega) only [w32_of, w64_of, w8_of]) <;> first | assumption | omega | (split <;> omega) | (refine And.intro ?_ ?_ <;> split <;> omega)) | omega)) ?_
      rintro x_11 - gn
      try simp (disch := omega) only [w32_of, w64_of, w8_of] at gn
      refine wp_if (fun c8 => ?_) (fun c8 => ?_)
      · have k9 := gn c8
        try simp (disch := omega) only [w32_of, w64_of, w8_of] at k9
        try simp (disch := omega) only [w32_of, w64_of, w8_of, decide_eq_true_eq, decide_eq_false_iff_not, Bool.not_eq_true] at c8
        refine wp_somek ?_
        try dsimp only
        exact wp_some (by (try dsimp only) <;> (first | (intro h; exact absurd h (by decide)) | (intro _; exact gn (by assumption))))
      · try simp (disch := omega) only [w32_of, w64_of, w8_of, decide_eq_true_eq, decide_eq_false_iff_not, Bool.not_eq_true] at c8
        refine wp_somek ?_
        try dsimp only
        exact wp_some (fun q => (by cases q))
    · try simp (disch := omega) only [w32_of, w64_of, w8_of, decide_eq_true_eq, decide_eq_false_iff_not, Bool.not_eq_true] at c7
      refine wp_somek ?_
      try dsimp only
      exact wp_some (fun q => (by cases q))
theorem v_layRings {σ : SG} {slot_0 : Int} {shape_0 : Int} (hσ : II σ) (qslot_0 : 0 ≤ slot_0 ∧ slot_0 ≤ 31) (qshape_0 : 0 ≤ shape_0 ∧ shape_0 ≤ 1) (w0 : SHs σ) (w1 : NRs σ slot_0) (w2 : SN σ) (w3 : σ kR_segments 0 ≤ 2048) : wp_ (fR_layRings σ slot_0 shape_0) (fun zz_ => II zz_.2 ∧ FR [kR_ex, kR_ey, kR_numberOf, kR_ringOf, kR_segments, kR_shapeOf, kR_sx, kR_sy] σ zz_.2 ∧ (zz_.2 kR_segments 0 ≤ σ kR_segments 0 + 2048) ∧ (SN zz_.2) ∧ ((zz_.1 = true) → CLs σ → CLs zz_.2)) := by
  unfold fR_layRings
  have c1 := ii_kR_segments hσ 0
  have hpm := ii_kR_planMany hσ slot_0
  have hqm := ii_kR_pointMany hσ slot_0
  have c2 := w32_rng slot_0
  refine wp_rdI (by (try dsimp only) <;> first | assumption | omega | ((try simp (disch := omega) only [w32_of, w64_of, w8_of]) <;> first | assumption | omega | (split <;> omega) | (refine And.intro ?_ ?_ <;> split <;> omega)) | omega) (by (try dsimp only) <;> first | assumption | omega | ((try simp (disch := omega) only [w32_of, w64_of, w8_of]) <;> first | assumption | omega | (split <;> omega) | (refine And.intro ?_ ?_ <;> split <;> omega)) | omega) (fun x_1 e_x_1 => ?_)
  have b_x_1 : 0 ≤ x_1 ∧ x_1 ≤ 2048 := by rw [e_x_1]; exact ii_kR_planMany hσ _
  try simp (disch := omega) only [w32_of, w64_of, w8_of] at e_x_1
  have c3 := ii_kR_planMany hσ slot_0
  refine wp_bd (P := fun rr_ => (0 ≤ rr_.1 ∧ rr_.1 ≤ 2147483647) ∧ II rr_.2.2.2 ∧ FR [kR_ex, kR_ey, kR_numberOf, kR_ringOf, kR_segments, kR_shapeOf, kR_sx, kR_sy] σ rr_.2.2.2 ∧ (rr_.2.2.2 kR_segments 0 ≤ σ kR_segments 0 + 2048) ∧ (SN rr_.2.2.2) ∧ ((rr_.2.2.1 = true) → CLs σ → CLs rr_.2.2.2)) ?_ ?_
  · refine wp_whl (fun ss_ => II ss_.2.2.2 ∧ FR [kR_ex, kR_ey, kR_numberOf, kR_ringOf, kR_segments, kR_shapeOf, kR_sx, kR_sy] σ ss_.2.2.2 ∧ (∃ t, FLw σ slot_0 ss_.1 t ∧ ss_.2.1 ≤ t) ∧ (2048 * slot_0 ≤ ss_.2.1) ∧ (SN ss_.2.2.2) ∧ ((ss_.2.2.1 = true) → CLs σ → CLs ss_.2.2.2) ∧ (ss_.2.2.2 kR_segments 0 ≤ σ kR_segments 0 + (ss_.2.1 - 2048 * slot_0))) (fun ss_ => (2048 * slot_0 + 2050 - ss_.1).toNat) ⟨hσ, (FR_refl _ _), (by (try dsimp only) <;> (first | exact ⟨2048 * slot_0, FLw_0 (w0 _ (by omega) (by omega)), by omega⟩ | assumption)), (by (try dsimp only) <;> first | assumption | omega | ((try simp (disch := omega) only [w32_of, w64_of, w8_of]) <;> first | assumption | omega | (split <;> omega) | (refine And.intro ?_ ?_ <;> split <;> omega)) | omega), (by (try dsimp only) <;> (first | assumption)), (by (try dsimp only) <;> (first | (intro _ h; exact h) | assumption)), (by (try dsimp only) <;> first | assumption | omega | ((try simp (disch := omega) only [w32_of, w64_of, w8_of]) <;> first | assumption | omega | (split <;> omega) | (refine And.intro ?_ ?_ <;> split <;> omega)) | omega)⟩ ?_
    rintro ⟨p_3, point_4, closed_5, σ_6⟩ y6
    try dsimp only at y6 ⊢
    obtain ⟨hσ_6, frσ_6, gw, g4, gs, gc, g5⟩ := y6
    obtain ⟨t, gw1, gw2⟩ := gw
    have hle := FLw_le gw1
    have c8 := w32_rng p_3
    have c9 := w32_rng ((2048 * slot_0) + x_1)
    refine wp_if (fun c7 => ?_) (fun c7 => ?_)
    · try simp (disch := omega) only [w32_of, w64_of, w8_of, decide_eq_true_eq, decide_eq_false_iff_not, Bool.not_eq_true] at c7
      refine wp_rdI (by (try dsimp only) <;> first | assumption | omega | ((try simp (disch := omega) only [w32_of, w64_of, w8_of]) <;> first | assumption | omega | (split <;> omega) | (refine And.intro ?_ ?_ <;> split <;> omega)) | omega) (by (try dsimp only) <;> first | assumption | omega | ((try simp (disch := omega) only [w32_of, w64_of, w8_of]) <;> first | assumption | omega | (split <;> omega) | (refine And.intro ?_ ?_ <;> split <;> omega)) | omega) (fun x_15 e_x_15 => ?_)
      rw [FR_at frσ_6 (c := kR_plan) (by decide)] at e_x_15
      try simp (disch := omega) only [w32_of, w64_of, w8_of] at e_x_15
      have c10 := FR_at frσ_6 (c := kR_plan) (by decide) p_3
      have c11 := w32_rng (p_3 + 1)
      refine wp_rdI (by (try dsimp only) <;> first | assumption | omega | ((try simp (disch := omega) only [w32_of, w64_of, w8_of]) <;> first | assumption | omega | (split <;> omega) | (refine And.intro ?_ ?_ <;> split <;> omega)) | omega) (by (try dsimp only) <;> first | assumption | omega | ((try simp (disch := omega) only [w32_of, w64_of, w8_of]) <;> first | assumption | omega | (split <;> omega) | (refine And.intro ?_ ?_ <;> split <;> omega)) | omega) (fun x_17 e_x_17 => ?_)
      rw [FR_at frσ_6 (c := kR_plan) (by decide)] at e_x_17
      try simp (disch := omega) only [w32_of, w64_of, w8_of] at e_x_17
      have c12 := FR_at frσ_6 (c := kR_plan) (by decide) (p_3 + 1)
      obtain ⟨ho, hn, h2, h3, h4, h5, -⟩ := FLw_hd gw1 (by omega)
      have ho1 := ho.1
      have ho2 := ho.2.1
      have ho3 := ho.2.2.1
      have hle2 := FLw_le hn
      refine wp_bd (P := fun rr_ => (0 ≤ rr_.2.2.2.1 ∧ rr_.2.2.2.1 ≤ 2147483647) ∧ II rr_.2.2.2.2 ∧ FR [kR_ex, kR_ey, kR_numberOf, kR_ringOf, kR_segments, kR_shapeOf, kR_sx, kR_sy] σ rr_.2.2.2.2 ∧ (∃ t, FLw σ slot_0 rr_.1 t ∧ rr_.2.1 ≤ t) ∧ (2048 * slot_0 ≤ rr_.2.1) ∧ (p_3 + 2 ≤ rr_.1) ∧ (SN rr_.2.2.2.2) ∧ ((rr_.2.2.1 = true) → CLs σ → CLs rr_.2.2.2.2) ∧ (rr_.2.2.2.2 kR_segments 0 ≤ σ kR_segments 0 + (rr_.2.1 - 2048 * slot_0))) ?_ ?_
      · have c13 := ii_kR_segments hσ_6 0
        refine wp_whl (fun ss_ => II ss_.2.2.2.2 ∧ FR [kR_ex, kR_ey, kR_numberOf, kR_ringOf, kR_segments, kR_shapeOf, kR_sx, kR_sy] σ ss_.2.2.2.2 ∧ (∃ u, RWp (σ kR_plan) p_3 ss_.2.2.2.1 ss_.1 t u ∧ ss_.2.1 ≤ u) ∧ (2048 * slot_0 ≤ ss_.2.1) ∧ (SN ss_.2.2.2.2) ∧ ((ss_.2.2.1 = true) → CLs σ → CLs ss_.2.2.2.2) ∧ (ss_.2.2.2.2 kR_segments 0 ≤ σ kR_segments 0 + (ss_.2.1 - 2048 * slot_0))) (fun ss_ => (4096 - ss_.2.2.2.1).toNat) ⟨hσ_6, frσ_6, (by (try dsimp only) <;> (first | exact ⟨_, RW_0 ho e_x_15 e_x_17, by split <;> omega⟩ | exact ⟨_, r1, by omega⟩)), (by (try dsimp only) <;> first | assumption | omega | ((try simp (disch := omega) only [w32_of, w64_of, w8_of]) <;> first | assumption | omega | (split <;> omega) | (refine And.intro ?_ ?_ <;> split <;> omega)) | omega), (by (try dsimp only) <;> (first | assumption)), (by (try dsimp only) <;> (first | assumption)), (by (try dsimp only) <;> first | assumption | omega | ((try simp (disch := omega) only [w32_of, w64_of, w8_of]) <;> first | assumption | omega | (split <;> omega) | (refine And.intro ?_ ?_ <;> split <;> omega)) | omega)⟩ ?_
        rintro ⟨p_19, point_20, closed_21, r_22, σ_23⟩ y16
        try dsimp only at y16 ⊢
        obtain ⟨hσ_23, frσ_23, gr, g14, gs, gc, g15⟩ := y16
        obtain ⟨u, gr1, gr2⟩ := gr
        have hrl := RW_le ho gr1
        have c18 := w32_rng x_15
        have c19 := w32_rng r_22
        have c20 := w32_rng x_17
        refine wp_if (fun c17 => ?_) (fun c17 => ?_)
        · try simp (disch := omega) only [w32_of, w64_of, w8_of, decide_eq_true_eq, decide_eq_false_iff_not, Bool.not_eq_true] at c17
          obtain ⟨r1, r2, r3, r4, r5, r6⟩ := RW_go ho gr1 (by omega) (by omega)
          have c21 := w32_rng p_19
          refine wp_rdI (by (try dsimp only) <;> first | assumption | omega | ((try simp (disch := omega) only [w32_of, w64_of, w8_of]) <;> first | assumption | omega | (split <;> omega) | (refine And.intro ?_ ?_ <;> split <;> omega)) | omega) (by (try dsimp only) <;> first | assumption | omega | ((try simp (disch := omega) only [w32_of, w64_of, w8_of]) <;> first | assumption | omega | (split <;> omega) | (refine And.intro ?_ ?_ <;> split <;> omega)) | omega) (fun x_31 e_x_31 => ?_)
          rw [FR_at frσ_23 (c := kR_plan) (by decide)] at e_x_31
          try simp (disch := omega) only [w32_of, w64_of, w8_of] at e_x_31
          have c22 := FR_at frσ_23 (c := kR_plan) (by decide) p_19
          have gc0 := gc
          refine wp_bd (P := fun rr_ => ((rr_ = true) → closed_21 = true ∧ 0 < x_31 ∧ (σ kR_xs point_20 = σ kR_xs (point_20 + x_31 - 1) ∧ σ kR_ys point_20 = σ kR_ys (point_20 + x_31 - 1)))) ?_ ?_
          · refine wp_if (fun c23 => ?_) (fun c23 => ?_)
            · have k24 := gc c23
              try simp (disch := omega) only [w32_of, w64_of, w8_of] at k24
              try simp (disch := omega) only [w32_of, w64_of, w8_of, decide_eq_true_eq, decide_eq_false_iff_not, Bool.not_eq_true] at c23
              have c26 := w32_rng x_31
              refine wp_if (fun c25 => ?_) (fun c25 => ?_)
              · try simp (disch := omega) only [w32_of, w64_of, w8_of, decide_eq_true_eq, decide_eq_false_iff_not, Bool.not_eq_true] at c25
                refine wp_bd (v_isSame (τ := σ_23) (p := point_20) (q := ((point_20 + x_31) - 1)) hσ_23 (by (try dsimp only) <;> first | assumption | omega | ((try simp (disch := omega) only [w32_of, w64_of, w8_of]) <;> first | assumption | omega | (split <;> omega) | (refine And.intro ?_ ?_ <;> split <;> omega)) | omega) (by (try dsimp only) <;> first | assumption | omega | ((try simp (disch := omega) only [w32_of, w64_of, w8_of]) <;> first | assumption | omega | (split <;> omega) | (refine And.intro ?_ ?_ <;> split <;> omega)) | omega) (by (try dsimp only) <;> first | assumption | omega | ((try simp (disch := omega) only [w32_of, w64_of, w8_of]) <;> first | assumption | omega | (split <;> omega) | (refine And.intro ?_ ?_ <;> split <;> omega)) | omega) (by (try dsimp only) <;> first | assumption | omega | ((try simp (disch := omega) only [w32_of, w64_of, w8_of]) <;> first | assumption | omega | (split <;> omega) | (refine And.intro ?_ ?_ <;> split <;> omega)) | omega)) ?_
                rintro x_36 - hsm
                have c27 := ii_kR_xs hσ_23 point_20
                have c28 := FR_at frσ_23 (c := kR_xs) (by decide) point_20
                have c29 := ii_kR_xs hσ point_20
                have c30 := ii_kR_xs hσ_23 ((point_20 + x_31) - 1)
                have c31 := FR_at frσ_23 (c := kR_xs) (by decide) ((point_20 + x_31) - 1)
                have c32 := ii_kR_xs hσ ((point_20 + x_31) - 1)
                have c33 := ii_kR_ys hσ_23 point_20
                have c34 := FR_at frσ_23 (c := kR_ys) (by decide) point_20
                have c35 := ii_kR_ys hσ point_20
                have c36 := ii_kR_ys hσ_23 ((point_20 + x_31) - 1)
                have c37 := FR_at frσ_23 (c := kR_ys) (by decide) ((point_20 + x_31) - 1)
                have c38 := ii_kR_ys hσ ((point_20 + x_31) - 1)
                try simp (disch := omega) only [w32_of, w64_of, w8_of] at hsm
                have hsm2 : x_36 = true → (σ kR_xs point_20 = σ kR_xs (point_20 + x_31 - 1) ∧ σ kR_ys point_20 = σ kR_ys (point_20 + x_31 - 1)) := fun h => by
                  have z := hsm.1 h
                  simp only [FR_at frσ_23 (c := kR_xs) (by decide), FR_at frσ_23 (c := kR_ys) (by decide)] at z
                  exact z
                refine wp_if (fun c39 => ?_) (fun c39 => ?_)
                · have k40 := hsm.mp c39
                  try simp (disch := omega) only [w32_of, w64_of, w8_of] at k40
                  try simp (disch := omega) only [w32_of, w64_of, w8_of, decide_eq_true_eq, decide_eq_false_iff_not, Bool.not_eq_true] at c39
                  have c41 := ii_kR_xs hσ (point_20 + x_31 - 1)
                  have c42 := ii_kR_ys hσ (point_20 + x_31 - 1)
                  exact wp_some (by (try dsimp only) <;> (first | (intro h; exact absurd h (by decide)) | (intro _; exact ⟨by assumption, by omega, hsm2 (by assumption)⟩)))
                · have k43 := fun q => c39 (hsm.mpr q)
                  try simp (disch := omega) only [w32_of, w64_of, w8_of] at k43
                  try simp (disch := omega) only [w32_of, w64_of, w8_of, decide_eq_true_eq, decide_eq_false_iff_not, Bool.not_eq_true] at c39
                  have c44 := ii_kR_xs hσ (point_20 + x_31 - 1)
                  have c45 := ii_kR_ys hσ (point_20 + x_31 - 1)
                  exact wp_some (fun q => (by cases q))
              · try simp (disch := omega) only [w32_of, w64_of, w8_of, decide_eq_true_eq, decide_eq_false_iff_not, Bool.not_eq_true] at c25
                have c46 := ii_kR_xs hσ point_20
                have c47 := ii_kR_xs hσ (point_20 + x_31 - 1)
                have c48 := ii_kR_ys hσ point_20
                have c49 := ii_kR_ys hσ (point_20 + x_31 - 1)
                exact wp_some (fun q => (by cases q))
            · try simp (disch := omega) only [w32_of, w64_of, w8_of, decide_eq_true_eq, decide_eq_false_iff_not, Bool.not_eq_true] at c23
              have c51 := ii_kR_xs hσ point_20
              have c52 := ii_kR_xs hσ (point_20 + x_31 - 1)
              have c53 := ii_kR_ys hσ point_20
              have c54 := ii_kR_ys hσ (point_20 + x_31 - 1)
              exact wp_some (fun q => (by cases q))
          rintro x_42 _ gq
          refine wp_bd (P := fun rr_ => (0 ≤ rr_.1 ∧ rr_.1 ≤ 2147483647) ∧ II rr_.2 ∧ FR [kR_ex, kR_ey, kR_numberOf, kR_ringOf, kR_segments, kR_shapeOf, kR_sx, kR_sy] σ rr_.2 ∧ (rr_.2 kR_segments 0 ≤ σ kR_segments 0 + (point_20 - 2048 * slot_0) + x_31) ∧ (SN rr_.2) ∧ ((x_42 = true) → CLs σ → CLs rr_.2)) ?_ ?_
          · have c55 := ii_kR_segments hσ_23 0
            have c56 := ii_kR_xs hσ point_20
            have c57 := ii_kR_ys hσ point_20
            have c58 := ii_kR_xs hσ (point_20 + 0)
            have c59 := ii_kR_ys hσ (point_20 + 0)
            refine wp_whl (fun ss_ => II ss_.2 ∧ FR [kR_ex, kR_ey, kR_numberOf, kR_ringOf, kR_segments, kR_shapeOf, kR_sx, kR_sy] σ ss_.2 ∧ (0 ≤ ss_.1 ∧ (ss_.1 = 0 ∨ ss_.1 + 1 ≤ x_31)) ∧ (SN ss_.2) ∧ (ss_.2 kR_segments 0 ≤ σ kR_segments 0 + (point_20 - 2048 * slot_0) + ss_.1) ∧ (∀ x y β, XSg ss_.2 x y β = Bool.xor (XSg σ_23 x y β) (bq_ β (q_isl 1 shape_0) && Bool.xor (decide (x = σ kR_xs point_20 ∧ y = σ kR_ys point_20)) (decide (x = σ kR_xs (point_20 + ss_.1) ∧ y = σ kR_ys (point_20 + ss_.1)))))) (fun ss_ => (4096 - ss_.1).toNat) ⟨hσ_23, frσ_23, (by (try dsimp only) <;> first | assumption | omega | ((try simp (disch := omega) only [w32_of, w64_of, w8_of]) <;> first | assumption | omega | (split <;> omega) | (refine And.intro ?_ ?_ <;> split <;> omega)) | omega), (by (try dsimp only) <;> (first | assumption | exact gs3)), (by (try dsimp only) <;> first | assumption | omega | ((try simp (disch := omega) only [w32_of, w64_of, w8_of]) <;> first | assumption | omega | (split <;> omega) | (refine And.intro ?_ ?_ <;> split <;> omega)) | omega), (by (try dsimp only) <;> (first | (intro x y β; rw [show point_20 + 0 = point_20 by omega, xo_self]) | exact gx3))⟩ ?_
            rintro ⟨k_43, σ_44⟩ y62
            try dsimp only at y62 ⊢
            obtain ⟨hσ_44, frσ_44, g60, gs, g61, gx⟩ := y62
            have hs0 := ii_kR_segments hσ_44 0
            have hM : ∀ c, [kR_ex, kR_ey, kR_numberOf, kR_ringOf, kR_segments, kR_shapeOf, kR_sx, kR_sy].contains c = false → ∀ j, σ_44 c j = σ c j := fun c h => FR_at frσ_44 h
            have c64 := w32_rng (k_43 + 1)
            have c65 := w32_rng x_31
            refine wp_if (fun c63 => ?_) (fun c63 => ?_)
            · try simp (disch := omega) only [w32_of, w64_of, w8_of, decide_eq_true_eq, decide_eq_false_iff_not, Bool.not_eq_true] at c63
              have c66 := ii_kR_segments hσ_44 0
              refine wp_bd (v_segment (σ := σ_44) (f := (point_20 + k_43)) (t := ((point_20 + k_43) + 1)) (r := r_22) (n := k_43) (s := shape_0) hσ_44 (by (try dsimp only) <;> first | assumption | omega | ((try simp (disch := omega) only [w32_of, w64_of, w8_of]) <;> first | assumption | omega | (split <;> omega) | (refine And.intro ?_ ?_ <;> split <;> omega)) | omega) (by (try dsimp only) <;> first | assumption | omega | ((try simp (disch := omega) only [w32_of, w64_of, w8_of]) <;> first | assumption | omega | (split <;> omega) | (refine And.intro ?_ ?_ <;> split <;> omega)) | omega) (by (try dsimp only) <;> first | assumption | omega | ((try simp (disch := omega) only [w32_of, w64_of, w8_of]) <;> first | assumption | omega | (split <;> omega) | (refine And.intro ?_ ?_ <;> split <;> omega)) | omega) (by (try dsimp only) <;> first | assumption | omega | ((try simp (disch := omega) only [w32_of, w64_of, w8_of]) <;> first | assumption | omega | (split <;> omega) | (refine And.intro ?_ ?_ <;> split <;> omega)) | omega) (by (try dsimp only) <;> first | assumption | omega | ((try simp (disch := omega) only [w32_of, w64_of, w8_of]) <;> first | assumption | omega | (split <;> omega) | (refine And.intro ?_ ?_ <;> split <;> omega)) | omega) (by (try dsimp only) <;> first | assumption | omega | ((try simp (disch := omega) only [w32_of, w64_of, w8_of]) <;> first | assumption | omega | (split <;> omega) | (refine And.intro ?_ ?_ <;> split <;> omega)) | omega) (by (try dsimp only) <;> first | assumption | omega | ((try simp (disch := omega) only [w32_of, w64_of, w8_of]) <;> first | assumption | omega | (split <;> omega) | (refine And.intro ?_ ?_ <;> split <;> omega)) | omega) (by (try dsimp only) <;> first | assumption | omega | ((try simp (disch := omega) only [w32_of, w64_of, w8_of]) <;> first | assumption | omega | (split <;> omega) | (refine And.intro ?_ ?_ <;> split <;> omega)) | omega) (by (try dsimp only) <;> first | assumption | omega | ((try simp (disch := omega) only [w32_of, w64_of, w8_of]) <;> first | assumption | omega | (split <;> omega) | (refine And.intro ?_ ?_ <;> split <;> omega)) | omega) (by (try dsimp only) <;> first | assumption | omega | ((try simp (disch := omega) only [w32_of, w64_of, w8_of]) <;> first | assumption | omega | (split <;> omega) | (refine And.intro ?_ ?_ <;> split <;> omega)) | omega) (by (try dsimp only) <;> first | assumption | omega | ((try simp (disch := omega) only [w32_of, w64_of, w8_of]) <;> first | assumption | omega | (split <;> omega) | (refine And.intro ?_ ?_ <;> split <;> omega)) | omega)) ?_
              rintro σ_54 - ⟨hσ_54, flσ_54, sa⟩
              have frσ_54 : FR [kR_ex, kR_ey, kR_numberOf, kR_ringOf, kR_segments, kR_shapeOf, kR_sx, kR_sy] σ σ_54 := FR_tr frσ_44 flσ_54 (by decide) (by decide)
              try simp (disch := omega) only [w32_of, w64_of, w8_of] at sa
              obtain ⟨sa1, sa2, sa3⟩ := id sa
              have nx : ∀ i, 2048 * slot_0 ≤ i → i < 2048 * slot_0 + σ kR_pointMany slot_0 → ((-500000000 ≤ σ_44 kR_xs i ∧ σ_44 kR_xs i ≤ 500000000) ∧ (-500000000 ≤ σ_44 kR_ys i ∧ σ_44 kR_ys i ≤ 500000000)) := fun i a b => by rw [hM kR_xs (by decide), hM kR_ys (by decide)]; exact w1 i a b
              have gs3 := SN_seg sa gs (nx _ (by omega) (by omega)) (nx _ (by omega) (by omega))
              have gx3 : ∀ x y β, XSg σ_54 x y β = Bool.xor (XSg σ_23 x y β) (bq_ β (q_isl 1 shape_0) && Bool.xor (decide (x = σ kR_xs point_20 ∧ y = σ kR_ys point_20)) (decide (x = σ kR_xs (point_20 + (k_43 + 1)) ∧ y = σ kR_ys (point_20 + (k_43 + 1))))) := fun x y β => by
                rw [XS_seg hs0.1 sa, gx, hM kR_xs (by decide), hM kR_ys (by decide), hM kR_xs (by decide), hM kR_ys (by decide), show point_20 + k_43 + 1 = point_20 + (k_43 + 1) by omega]
                exact xo_tel _ _ _ _ _
              have c67 := ii_kR_segments hσ_54 0
              have c68 := ii_kR_xs hσ (point_20 + (k_43 + 1))
              have c69 := ii_kR_ys hσ (point_20 + (k_43 + 1))
              exact wp_some (x_inl ⟨⟨hσ_54, frσ_54, (by (try dsimp only) <;> first | assumption | omega | ((try simp (disch := omega) only [w32_of, w64_of, w8_of]) <;> first | assumption | omega | (split <;> omega) | (refine And.intro ?_ ?_ <;> split <;> omega)) | omega), (by (try dsimp only) <;> (first | assumption | exact gs3)), (by (try dsimp only) <;> first | assumption | omega | ((try simp (disch := omega) only [w32_of, w64_of, w8_of]) <;> first | assumption | omega | (split <;> omega) | (refine And.intro ?_ ?_ <;> split <;> omega)) | omega), (by (try dsimp only) <;> (first | (intro x y β; rw [show point_20 + 0 = point_20 by omega, xo_self]) | exact gx3))⟩, (by (try dsimp only) <;> first | assumption | omega | ((try simp (disch := omega) only [w32_of, w64_of, w8_of]) <;> first | assumption | omega | (split <;> omega) | (refine And.intro ?_ ?_ <;> split <;> omega)) | omega)⟩)
            · try simp (disch := omega) only [w32_of, w64_of, w8_of, decide_eq_true_eq, decide_eq_false_iff_not, Bool.not_eq_true] at c63
              have c70 := ii_kR_segments hσ_44 0
              exact wp_some (x_inr ⟨(by (try dsimp only) <;> first | assumption | omega | ((try simp (disch := omega) only [w32_of, w64_of, w8_of]) <;> first | assumption | omega | (split <;> omega) | (refine And.intro ?_ ?_ <;> split <;> omega)) | omega), hσ_44, frσ_44, (by (try dsimp only) <;> first | assumption | omega | ((try simp (disch := omega) only [w32_of, w64_of, w8_of]) <;> first | assumption | omega | (split <;> omega) | (refine And.intro ?_ ?_ <;> split <;> omega)) | omega), (by (try dsimp only) <;> (exact gs)), (by (try dsimp only) <;> (intro h hc; obtain ⟨h1, h2, h3, h4⟩ := gq h; intro x y β; have z := gx x y β; rw [show point_20 + k_43 = point_20 + x_31 - 1 by omega, ← h3, ← h4, xo_self] at z; exact z.trans (gc0 h1 hc x y β)))⟩)
          rintro ⟨k_57, σ_58⟩ _ y73
          try dsimp only at y73 ⊢
          obtain ⟨g71, hσ_58, frσ_58, g72, gs, gc⟩ := y73
          have c74 := ii_kR_segments hσ_58 0
          exact wp_some (x_inl ⟨⟨hσ_58, frσ_58, (by (try dsimp only) <;> (first | exact ⟨_, RW_0 ho e_x_15 e_x_17, by split <;> omega⟩ | exact ⟨_, r1, by omega⟩)), (by (try dsimp only) <;> first | assumption | omega | ((try simp (disch := omega) only [w32_of, w64_of, w8_of]) <;> first | assumption | omega | (split <;> omega) | (refine And.intro ?_ ?_ <;> split <;> omega)) | omega), (by (try dsimp only) <;> (first | assumption)), (by (try dsimp only) <;> (first | assumption)), (by (try dsimp only) <;> first | assumption | omega | ((try simp (disch := omega) only [w32_of, w64_of, w8_of]) <;> first | assumption | omega | (split <;> omega) | (refine And.intro ?_ ?_ <;> split <;> omega)) | omega)⟩, (by (try dsimp only) <;> first | assumption | omega | ((try simp (disch := omega) only [w32_of, w64_of, w8_of]) <;> first | assumption | omega | (split <;> omega) | (refine And.intro ?_ ?_ <;> split <;> omega)) | omega)⟩)
        · try simp (disch := omega) only [w32_of, w64_of, w8_of, decide_eq_true_eq, decide_eq_false_iff_not, Bool.not_eq_true] at c17
          obtain ⟨r1, r2⟩ := RW_end ho gr1 (by omega)
          have c75 := ii_kR_segments hσ_23 0
          exact wp_some (x_inr ⟨(by (try dsimp only) <;> first | assumption | omega | ((try simp (disch := omega) only [w32_of, w64_of, w8_of]) <;> first | assumption | omega | (split <;> omega) | (refine And.intro ?_ ?_ <;> split <;> omega)) | omega), hσ_23, frσ_23, (by (try dsimp only) <;> (rw [r1]; exact ⟨_, hn, by omega⟩)), (by (try dsimp only) <;> first | assumption | omega | ((try simp (disch := omega) only [w32_of, w64_of, w8_of]) <;> first | assumption | omega | (split <;> omega) | (refine And.intro ?_ ?_ <;> split <;> omega)) | omega), (by (try dsimp only) <;> first | assumption | omega | ((try simp (disch := omega) only [w32_of, w64_of, w8_of]) <;> first | assumption | omega | (split <;> omega) | (refine And.intro ?_ ?_ <;> split <;> omega)) | omega), (by (try dsimp only) <;> (exact gs)), (by (try dsimp only) <;> (exact gc)), (by (try dsimp only) <;> first | assumption | omega | ((try simp (disch := omega) only [w32_of, w64_of, w8_of]) <;> first | assumption | omega | (split <;> omega) | (refine And.intro ?_ ?_ <;> split <;> omega)) | omega)⟩)
      rintro ⟨p_73, point_74, closed_75, r_76, σ_77⟩ _ y80
      try dsimp only at y80 ⊢
      obtain ⟨g76, hσ_77, frσ_77, gw, g77, g78, gs, gc, g79⟩ := y80
      have c81 := ii_kR_segments hσ_77 0
      exact wp_some (x_inl ⟨⟨hσ_77, frσ_77, (by (try dsimp only) <;> (first | exact ⟨2048 * slot_0, FLw_0 (w0 _ (by omega) (by omega)), by omega⟩ | assumption)), (by (try dsimp only) <;> first | assumption | omega | ((try simp (disch := omega) only [w32_of, w64_of, w8_of]) <;> first | assumption | omega | (split <;> omega) | (refine And.intro ?_ ?_ <;> split <;> omega)) | omega), (by (try dsimp only) <;> (first | assumption)), (by (try dsimp only) <;> (first | (intro _ h; exact h) | assumption)), (by (try dsimp only) <;> first | assumption | omega | ((try simp (disch := omega) only [w32_of, w64_of, w8_of]) <;> first | assumption | omega | (split <;> omega) | (refine And.intro ?_ ?_ <;> split <;> omega)) | omega)⟩, (by (try dsimp only) <;> first | assumption | omega | ((try simp (disch := omega) only [w32_of, w64_of, w8_of]) <;> first | assumption | omega | (split <;> omega) | (refine And.intro ?_ ?_ <;> split <;> omega)) | omega)⟩)
    · try simp (disch := omega) only [w32_of, w64_of, w8_of, decide_eq_true_eq, decide_eq_false_iff_not, Bool.not_eq_true] at c7
      have c82 := ii_kR_segments hσ_6 0
      exact wp_some (x_inr ⟨(by (try dsimp only) <;> first | assumption | omega | ((try simp (disch := omega) only [w32_of, w64_of, w8_of]) <;> first | assumption | omega | (split <;> omega) | (refine And.intro ?_ ?_ <;> split <;> omega)) | omega), hσ_6, frσ_6, (by (try dsimp only) <;> first | assumption | omega | ((try simp (disch := omega) only [w32_of, w64_of, w8_of]) <;> first | assumption | omega | (split <;> omega) | (refine And.intro ?_ ?_ <;> split <;> omega)) | omega), (by (try dsimp only) <;> (exact gs)), (by (try dsimp only) <;> (exact gc))⟩)
  rintro ⟨p_81, point_82, closed_83, σ_84⟩ _ y85
  try dsimp only at y85 ⊢
  obtain ⟨g83, hσ_84, frσ_84, g84, gs2, gc2⟩ := y85
  have c86 := ii_kR_segments hσ_84 0
  exact wp_some ⟨hσ_84, frσ_84, (by (try dsimp only) <;> first | assumption | omega | ((try simp (disch := omega) only [w32_of, w64_of, w8_of]) <;> first | assumption | omega | (split <;> omega) | (refine And.intro ?_ ?_ <;> split <;> omega)) | omega), (by (try dsimp only) <;> (exact gs2)), (by (try dsimp only) <;> (exact gc2))⟩
