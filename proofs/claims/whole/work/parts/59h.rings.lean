theorem s_G_turnAt {σ : SG} {a_0 : Int} {b_0 : Int} {c_0 : Int} (hσ : II σ) (w0 : 0 ≤ a_0 ∧ a_0 ≤ 8191) (w1 : 0 ≤ b_0 ∧ b_0 ≤ 8191) (w2 : 0 ≤ c_0 ∧ c_0 ≤ 8191) : wp_ (fG_turnAt σ a_0 b_0 c_0) (fun zz_ => (-1 ≤ zz_ ∧ zz_ ≤ 1)) := by sorry
theorem s_G_whereIs {σ : SG} {ring_0 : Int} {x_0 : Int} {y_0 : Int} (hσ : II σ) (w0 : 0 ≤ ring_0 ∧ ring_0 ≤ 511) : wp_ (fG_whereIs σ ring_0 x_0 y_0) (fun zz_ => (0 ≤ zz_ ∧ zz_ ≤ 2)) := by sorry
theorem s_G_liesIn {σ : SG} {hole_0 : Int} {shell_0 : Int} (hσ : II σ) (w0 : 0 ≤ hole_0 ∧ hole_0 ≤ 511) (w1 : 0 ≤ shell_0 ∧ shell_0 ≤ 511) : wp_ (fG_liesIn σ hole_0 shell_0) (fun zz_ => True) := by
  unfold fG_liesIn
  have c1 := w32_rng hole_0
  refine wp_rdI (by (try dsimp only) <;> first | assumption | omega | ((try simp (disch := omega) only [w32_of, w64_of, w8_of]) <;> first | assumption | omega | (split <;> omega) | (refine And.intro ?_ ?_ <;> split <;> omega)) | omega) (by (try dsimp only) <;> first | assumption | omega | ((try simp (disch := omega) only [w32_of, w64_of, w8_of]) <;> first | assumption | omega | (split <;> omega) | (refine And.intro ?_ ?_ <;> split <;> omega)) | omega) (fun x_1 e_x_1 => ?_)
  have b_x_1 : 0 ≤ x_1 ∧ x_1 ≤ 2048 := by rw [e_x_1]; exact ii_kG_ringBegin hσ _
  try simp (disch := omega) only [w32_of, w64_of, w8_of] at e_x_1
  have c2 := ii_kG_ringBegin hσ hole_0
  refine wp_bx (P := fun rr_ => (0 ≤ rr_ ∧ rr_ ≤ 2048)) ?_ ?_
  · refine wp_whl (fun ss_ => (0 ≤ ss_ ∧ ss_ ≤ 2048)) (fun ss_ => (2049 - ss_).toNat) (by (try dsimp only) <;> first | assumption | omega | ((try simp (disch := omega) only [w32_of, w64_of, w8_of]) <;> first | assumption | omega | (split <;> omega) | (refine And.intro ?_ ?_ <;> split <;> omega)) | omega) ?_
    rintro k_3 g3
    have c4 := w32_rng (hole_0 + 1)
    refine wp_rdI (by (try dsimp only) <;> first | assumption | omega | ((try simp (disch := omega) only [w32_of, w64_of, w8_of]) <;> first | assumption | omega | (split <;> omega) | (refine And.intro ?_ ?_ <;> split <;> omega)) | omega) (by (try dsimp only) <;> first | assumption | omega | ((try simp (disch := omega) only [w32_of, w64_of, w8_of]) <;> first | assumption | omega | (split <;> omega) | (refine And.intro ?_ ?_ <;> split <;> omega)) | omega) (fun x_11 e_x_11 => ?_)
    have b_x_11 : 0 ≤ x_11 ∧ x_11 ≤ 2048 := by rw [e_x_11]; exact ii_kG_ringBegin hσ _
    try simp (disch := omega) only [w32_of, w64_of, w8_of] at e_x_11
    have c5 := ii_kG_ringBegin hσ (hole_0 + 1)
    have c7 := w32_rng k_3
    have c8 := w32_rng x_11
    refine wp_if (fun c6 => ?_) (fun c6 => ?_)
    · try simp (disch := omega) only [w32_of, w64_of, w8_of, decide_eq_true_eq, decide_eq_false_iff_not, Bool.not_eq_true] at c6
      refine wp_rdI (by (try dsimp only) <;> first | assumption | omega | ((try simp (disch := omega) only [w32_of, w64_of, w8_of]) <;> first | assumption | omega | (split <;> omega) | (refine And.intro ?_ ?_ <;> split <;> omega)) | omega) (by (try dsimp only) <;> first | assumption | omega | ((try simp (disch := omega) only [w32_of, w64_of, w8_of]) <;> first | assumption | omega | (split <;> omega) | (refine And.intro ?_ ?_ <;> split <;> omega)) | omega) (fun x_14 e_x_14 => ?_)
      have b_x_14 : 0 ≤ x_14 ∧ x_14 ≤ 8191 := by rw [e_x_14]; exact ii_kG_corner hσ _
      try simp (disch := omega) only [w32_of, w64_of, w8_of] at e_x_14
      have c9 := ii_kG_corner hσ k_3
      have c10 := w32_rng x_14
      refine wp_rdI (by (try dsimp only) <;> first | assumption | omega | ((try simp (disch := omega) only [w32_of, w64_of, w8_of]) <;> first | assumption | omega | (split <;> omega) | (refine And.intro ?_ ?_ <;> split <;> omega)) | omega) (by (try dsimp only) <;> first | assumption | omega | ((try simp (disch := omega) only [w32_of, w64_of, w8_of]) <;> first | assumption | omega | (split <;> omega) | (refine And.intro ?_ ?_ <;> split <;> omega)) | omega) (fun x_16 e_x_16 => ?_)
      have b_x_16 : (-1000000000) ≤ x_16 ∧ x_16 ≤ 1000000000 := by rw [e_x_16]; exact ii_kN_hotX hσ _
      try simp (disch := omega) only [w32_of, w64_of, w8_of] at e_x_16
      have c11 := ii_kN_hotX hσ x_14
      refine wp_rdI (by (try dsimp only) <;> first | assumption | omega | ((try simp (disch := omega) only [w32_of, w64_of, w8_of]) <;> first | assumption | omega | (split <;> omega) | (refine And.intro ?_ ?_ <;> split <;> omega)) | omega) (by (try dsimp only) <;> first | assumption | omega | ((try simp (disch := omega) only [w32_of, w64_of, w8_of]) <;> first | assumption | omega | (split <;> omega) | (refine And.intro ?_ ?_ <;> split <;> omega)) | omega) (fun x_18 e_x_18 => ?_)
      have b_x_18 : 0 ≤ x_18 ∧ x_18 ≤ 8191 := by rw [e_x_18]; exact ii_kG_corner hσ _
      try simp (disch := omega) only [w32_of, w64_of, w8_of] at e_x_18
      have c12 := w32_rng x_18
      refine wp_rdI (by (try dsimp only) <;> first | assumption | omega | ((try simp (disch := omega) only [w32_of, w64_of, w8_of]) <;> first | assumption | omega | (split <;> omega) | (refine And.intro ?_ ?_ <;> split <;> omega)) | omega) (by (try dsimp only) <;> first | assumption | omega | ((try simp (disch := omega) only [w32_of, w64_of, w8_of]) <;> first | assumption | omega | (split <;> omega) | (refine And.intro ?_ ?_ <;> split <;> omega)) | omega) (fun x_20 e_x_20 => ?_)
      have b_x_20 : (-1000000000) ≤ x_20 ∧ x_20 ≤ 1000000000 := by rw [e_x_20]; exact ii_kN_hotY hσ _
      try simp (disch := omega) only [w32_of, w64_of, w8_of] at e_x_20
      have c13 := ii_kN_hotY hσ x_18
      refine wp_bd (s_G_whereIs (σ := σ) (ring_0 := shell_0) (x_0 := x_16) (y_0 := x_20) hσ (by (try dsimp only) <;> first | assumption | omega | ((try simp (disch := omega) only [w32_of, w64_of, w8_of]) <;> first | assumption | omega | (split <;> omega) | (refine And.intro ?_ ?_ <;> split <;> omega)) | omega)) ?_
      rintro x_23 - g14
      try simp (disch := omega) only [w32_of, w64_of, w8_of] at g14
      have c16 := w32_rng x_23
      refine wp_if (fun c15 => ?_) (fun c15 => ?_)
      · try simp (disch := omega) only [w32_of, w64_of, w8_of, decide_eq_true_eq, decide_eq_false_iff_not, Bool.not_eq_true] at c15
        exact wp_some (x_inr (x_inr trivial))
      · try simp (disch := omega) only [w32_of, w64_of, w8_of, decide_eq_true_eq, decide_eq_false_iff_not, Bool.not_eq_true] at c15
        exact wp_some (x_inl ⟨(by (try dsimp only) <;> first | assumption | omega | ((try simp (disch := omega) only [w32_of, w64_of, w8_of]) <;> first | assumption | omega | (split <;> omega) | (refine And.intro ?_ ?_ <;> split <;> omega)) | omega), (by (try dsimp only) <;> first | assumption | omega | ((try simp (disch := omega) only [w32_of, w64_of, w8_of]) <;> first | assumption | omega | (split <;> omega) | (refine And.intro ?_ ?_ <;> split <;> omega)) | omega)⟩)
    · try simp (disch := omega) only [w32_of, w64_of, w8_of, decide_eq_true_eq, decide_eq_false_iff_not, Bool.not_eq_true] at c6
      exact wp_some (x_inr (x_inl (by (try dsimp only) <;> first | assumption | omega | ((try simp (disch := omega) only [w32_of, w64_of, w8_of]) <;> first | assumption | omega | (split <;> omega) | (refine And.intro ?_ ?_ <;> split <;> omega)) | omega)))
  rintro k_29 g17
  exact wp_some trivial
theorem s_G_giveHolesToShells {σ : SG} (hσ : II σ) : wp_ (fG_giveHolesToShells σ) (fun zz_ => II zz_ ∧ FC [kG_shellOf] [] σ zz_) := by
  unfold fG_giveHolesToShells
  refine wp_bd (P := fun rr_ => (0 ≤ rr_.1 ∧ rr_.1 ≤ 512) ∧ II rr_.2 ∧ FC [kG_shellOf] [] σ rr_.2) ?_ ?_
  · refine wp_whl (fun ss_ => (0 ≤ ss_.1 ∧ ss_.1 ≤ 512) ∧ II ss_.2 ∧ FC [kG_shellOf] [] σ ss_.2) (fun ss_ => (513 - ss_.1).toNat) ⟨(by (try dsimp only) <;> first | assumption | omega | ((try simp (disch := omega) only [w32_of, w64_of, w8_of]) <;> first | assumption | omega | (split <;> omega) | (refine And.intro ?_ ?_ <;> split <;> omega)) | omega), hσ, (FC_refl _ _ _)⟩ ?_
    rintro ⟨hole_1, σ_2⟩ y2
    try dsimp only at y2 ⊢
    obtain ⟨g1, hσ_2, frσ_2⟩ := y2
    have c4 := w32_rng hole_1
    have c5 := ii_kG_rings hσ_2 0
    have c6 := FC_at frσ_2 (c := kG_rings) (by first | decide | (rcases hE with rfl | rfl | rfl <;> decide)) 0
    have c7 := ii_kG_rings hσ 0
    have c8 := w32_rng (σ_2 kG_rings 0)
    refine wp_if (fun c3 => ?_) (fun c3 => ?_)
    · try simp (disch := omega) only [w32_of, w64_of, w8_of, decide_eq_true_eq, decide_eq_false_iff_not, Bool.not_eq_true] at c3
      refine wp_waI hσ_2 b_kG_shellOf (by (try dsimp only) <;> first | assumption | omega | ((try simp (disch := omega) only [w32_of, w64_of, w8_of]) <;> first | assumption | omega | (split <;> omega) | (refine And.intro ?_ ?_ <;> split <;> omega)) | omega) (by (try dsimp only) <;> first | assumption | omega | ((try simp (disch := omega) only [w32_of, w64_of, w8_of]) <;> first | assumption | omega | (split <;> omega) | (refine And.intro ?_ ?_ <;> split <;> omega)) | omega) (by (try dsimp only) <;> first | assumption | omega | ((try simp (disch := omega) only [w32_of, w64_of, w8_of]) <;> first | assumption | omega | (split <;> omega) | (refine And.intro ?_ ?_ <;> split <;> omega)) | omega) (fun σ_11 hσ_11 eσ_11 => ?_)
      try simp (disch := omega) only [w32_of, w64_of, w8_of] at eσ_11
      have flσ_11 := FC_sg eσ_11 (by first | decide | (rcases hE with rfl | rfl | rfl <;> decide))
      have frσ_11 : FC [kG_shellOf] [] σ σ_11 := FC_tr frσ_2 flσ_11 (by first | decide | (rcases hE with rfl | rfl | rfl <;> decide)) (by first | decide | (rcases hE with rfl | rfl | rfl <;> decide)) (by simp) (by simp)
      refine wp_bd (P := fun rr_ => (0 ≤ rr_.1 ∧ rr_.1 ≤ 512) ∧ II rr_.2 ∧ FC [kG_shellOf] [] σ rr_.2) ?_ ?_
      · refine wp_whl (fun ss_ => (0 ≤ ss_.1 ∧ ss_.1 ≤ 512) ∧ II ss_.2 ∧ FC [kG_shellOf] [] σ ss_.2) (fun ss_ => (513 - ss_.1).toNat) ⟨(by (try dsimp only) <;> first | assumption | omega | ((try simp (disch := omega) only [w32_of, w64_of, w8_of]) <;> first | assumption | omega | (split <;> omega) | (refine And.intro ?_ ?_ <;> split <;> omega)) | omega), hσ_11, frσ_11⟩ ?_
        rintro ⟨shell_13, σ_14⟩ y10
        try dsimp only at y10 ⊢
        obtain ⟨g9, hσ_14, frσ_14⟩ := y10
        have c12 := w32_rng shell_13
        have c13 := ii_kG_rings hσ_14 0
        have c14 := FC_at frσ_14 (c := kG_rings) (by first | decide | (rcases hE with rfl | rfl | rfl <;> decide)) 0
        have c15 := w32_rng (σ_14 kG_rings 0)
        refine wp_if (fun c11 => ?_) (fun c11 => ?_)
        · try simp (disch := omega) only [w32_of, w64_of, w8_of, decide_eq_true_eq, decide_eq_false_iff_not, Bool.not_eq_true] at c11
          refine wp_bd (s_G_isShell (σ := σ_14) (ring_0 := hole_1) hσ_14 (by (try dsimp only) <;> first | assumption | omega | ((try simp (disch := omega) only [w32_of, w64_of, w8_of]) <;> first | assumption | omega | (split <;> omega) | (refine And.intro ?_ ?_ <;> split <;> omega)) | omega)) ?_
          rintro x_32 - -
          refine wp_if (fun c17 => ?_) (fun c17 => ?_)
          · try simp (disch := omega) only [w32_of, w64_of, w8_of, decide_eq_true_eq, decide_eq_false_iff_not, Bool.not_eq_true] at c17
            exact wp_some (x_inr ⟨(by (try dsimp only) <;> first | assumption | omega | ((try simp (disch := omega) only [w32_of, w64_of, w8_of]) <;> first | assumption | omega | (split <;> omega) | (refine And.intro ?_ ?_ <;> split <;> omega)) | omega), hσ_14, frσ_14⟩)
          · try simp (disch := omega) only [w32_of, w64_of, w8_of, decide_eq_true_eq, decide_eq_false_iff_not, Bool.not_eq_true] at c17
            refine wp_bd (P := fun rr_ => True) ?_ ?_
            · refine wp_rdI (by (try dsimp only) <;> first | assumption | omega | ((try simp (disch := omega) only [w32_of, w64_of, w8_of]) <;> first | assumption | omega | (split <;> omega) | (refine And.intro ?_ ?_ <;> split <;> omega)) | omega) (by (try dsimp only) <;> first | assumption | omega | ((try simp (disch := omega) only [w32_of, w64_of, w8_of]) <;> first | assumption | omega | (split <;> omega) | (refine And.intro ?_ ?_ <;> split <;> omega)) | omega) (fun x_35 e_x_35 => ?_)
              have b_x_35 : (-1) ≤ x_35 ∧ x_35 ≤ 511 := by rw [e_x_35]; exact ii_kG_shellOf hσ_14 _
              try simp (disch := omega) only [w32_of, w64_of, w8_of] at e_x_35
              have c18 := ii_kG_shellOf hσ_14 hole_1
              have c20 := w32_rng x_35
              refine wp_if (fun c19 => ?_) (fun c19 => ?_)
              · try simp (disch := omega) only [w32_of, w64_of, w8_of, decide_eq_true_eq, decide_eq_false_iff_not, Bool.not_eq_true] at c19
                exact wp_some trivial
              · try simp (disch := omega) only [w32_of, w64_of, w8_of, decide_eq_true_eq, decide_eq_false_iff_not, Bool.not_eq_true] at c19
                refine wp_rdI (by (try dsimp only) <;> first | assumption | omega | ((try simp (disch := omega) only [w32_of, w64_of, w8_of]) <;> first | assumption | omega | (split <;> omega) | (refine And.intro ?_ ?_ <;> split <;> omega)) | omega) (by (try dsimp only) <;> first | assumption | omega | ((try simp (disch := omega) only [w32_of, w64_of, w8_of]) <;> first | assumption | omega | (split <;> omega) | (refine And.intro ?_ ?_ <;> split <;> omega)) | omega) (fun x_39 e_x_39 => ?_)
                rw [FC_at frσ_14 (c := kG_ringArea) (by first | decide | (rcases hE with rfl | rfl | rfl <;> decide))] at e_x_39
                try simp (disch := omega) only [w32_of, w64_of, w8_of] at e_x_39
                have c21 := FC_at frσ_14 (c := kG_ringArea) (by first | decide | (rcases hE with rfl | rfl | rfl <;> decide)) shell_13
                refine wp_rdI (by (try dsimp only) <;> first | assumption | omega | ((try simp (disch := omega) only [w32_of, w64_of, w8_of]) <;> first | assumption | omega | (split <;> omega) | (refine And.intro ?_ ?_ <;> split <;> omega)) | omega) (by (try dsimp only) <;> first | assumption | omega | ((try simp (disch := omega) only [w32_of, w64_of, w8_of]) <;> first | assumption | omega | (split <;> omega) | (refine And.intro ?_ ?_ <;> split <;> omega)) | omega) (fun x_41 e_x_41 => ?_)
                have b_x_41 : (-1) ≤ x_41 ∧ x_41 ≤ 511 := by rw [e_x_41]; exact ii_kG_shellOf hσ_14 _
                try simp (disch := omega) only [w32_of, w64_of, w8_of] at e_x_41
                have c22 := w32_rng x_41
                refine wp_rdI (by (try dsimp only) <;> first | assumption | omega | ((try simp (disch := omega) only [w32_of, w64_of, w8_of]) <;> first | assumption | omega | (split <;> omega) | (refine And.intro ?_ ?_ <;> split <;> omega)) | omega) (by (try dsimp only) <;> first | assumption | omega | ((try simp (disch := omega) only [w32_of, w64_of, w8_of]) <;> first | assumption | omega | (split <;> omega) | (refine And.intro ?_ ?_ <;> split <;> omega)) | omega) (fun x_43 e_x_43 => ?_)
                rw [FC_at frσ_14 (c := kG_ringArea) (by first | decide | (rcases hE with rfl | rfl | rfl <;> decide))] at e_x_43
                try simp (disch := omega) only [w32_of, w64_of, w8_of] at e_x_43
                have c23 := FC_at frσ_14 (c := kG_ringArea) (by first | decide | (rcases hE with rfl | rfl | rfl <;> decide)) x_41
                have c25 := w64_rng x_39
                have c26 := w64_rng x_43
                refine wp_if (fun c24 => ?_) (fun c24 => ?_)
                · try simp (disch := omega) only [w32_of, w64_of, w8_of, decide_eq_true_eq, decide_eq_false_iff_not, Bool.not_eq_true] at c24
                  exact wp_some trivial
                · try simp (disch := omega) only [w32_of, w64_of, w8_of, decide_eq_true_eq, decide_eq_false_iff_not, Bool.not_eq_true] at c24
                  exact wp_some trivial
            rintro x_48 _ -
            refine wp_bd (P := fun rr_ => II rr_ ∧ FC [kG_shellOf] [] σ rr_) ?_ ?_
            · refine wp_bd (s_G_isShell (σ := σ_14) (ring_0 := shell_13) hσ_14 (by (try dsimp only) <;> first | assumption | omega | ((try simp (disch := omega) only [w32_of, w64_of, w8_of]) <;> first | assumption | omega | (split <;> omega) | (refine And.intro ?_ ?_ <;> split <;> omega)) | omega)) ?_
              rintro x_72 - -
              refine wp_if (fun c28 => ?_) (fun c28 => ?_)
              · try simp (disch := omega) only [w32_of, w64_of, w8_of, decide_eq_true_eq, decide_eq_false_iff_not, Bool.not_eq_true] at c28
                refine wp_if (fun c29 => ?_) (fun c29 => ?_)
                · try simp (disch := omega) only [w32_of, w64_of, w8_of, decide_eq_true_eq, decide_eq_false_iff_not, Bool.not_eq_true] at c29
                  refine wp_rdI (by (try dsimp only) <;> first | assumption | omega | ((try simp (disch := omega) only [w32_of, w64_of, w8_of]) <;> first | assumption | omega | (split <;> omega) | (refine And.intro ?_ ?_ <;> split <;> omega)) | omega) (by (try dsimp only) <;> first | assumption | omega | ((try simp (disch := omega) only [w32_of, w64_of, w8_of]) <;> first | assumption | omega | (split <;> omega) | (refine And.intro ?_ ?_ <;> split <;> omega)) | omega) (fun x_75 e_x_75 => ?_)
                  rw [FC_at frσ_14 (c := kG_ringArea) (by first | decide | (rcases hE with rfl | rfl | rfl <;> decide))] at e_x_75
                  try simp (disch := omega) only [w32_of, w64_of, w8_of] at e_x_75
                  have c30 := FC_at frσ_14 (c := kG_ringArea) (by first | decide | (rcases hE with rfl | rfl | rfl <;> decide)) shell_13
                  refine wp_rdI (by (try dsimp only) <;> first | assumption | omega | ((try simp (disch := omega) only [w32_of, w64_of, w8_of]) <;> first | assumption | omega | (split <;> omega) | (refine And.intro ?_ ?_ <;> split <;> omega)) | omega) (by (try dsimp only) <;> first | assumption | omega | ((try simp (disch := omega) only [w32_of, w64_of, w8_of]) <;> first | assumption | omega | (split <;> omega) | (refine And.intro ?_ ?_ <;> split <;> omega)) | omega) (fun x_77 e_x_77 => ?_)
                  rw [FC_at frσ_14 (c := kG_ringArea) (by first | decide | (rcases hE with rfl | rfl | rfl <;> decide))] at e_x_77
                  try simp (disch := omega) only [w32_of, w64_of, w8_of] at e_x_77
                  have c31 := FC_at frσ_14 (c := kG_ringArea) (by first | decide | (rcases hE with rfl | rfl | rfl <;> decide)) hole_1
                  have c33 := w64_rng (-x_77)
                  have c34 := w64_rng x_75
                  refine wp_if (fun c32 => ?_) (fun c32 => ?_)
                  · try simp (disch := omega) only [w32_of, w64_of, w8_of, decide_eq_true_eq, decide_eq_false_iff_not, Bool.not_eq_true] at c32
                    refine wp_bd (s_G_liesIn (σ := σ_14) (hole_0 := hole_1) (shell_0 := shell_13) hσ_14 (by (try dsimp only) <;> first | assumption | omega | ((try simp (disch := omega) only [w32_of, w64_of, w8_of]) <;> first | assumption | omega | (split <;> omega) | (refine And.intro ?_ ?_ <;> split <;> omega)) | omega) (by (try dsimp only) <;> first | assumption | omega | ((try simp (disch := omega) only [w32_of, w64_of, w8_of]) <;> first | assumption | omega | (split <;> omega) | (refine And.intro ?_ ?_ <;> split <;> omega)) | omega)) ?_
                    rintro x_81 - -
                    refine wp_if (fun c36 => ?_) (fun c36 => ?_)
                    · try simp (disch := omega) only [w32_of, w64_of, w8_of, decide_eq_true_eq, decide_eq_false_iff_not, Bool.not_eq_true] at c36
                      refine wp_waI hσ_14 b_kG_shellOf (by (try dsimp only) <;> first | assumption | omega | ((try simp (disch := omega) only [w32_of, w64_of, w8_of]) <;> first | assumption | omega | (split <;> omega) | (refine And.intro ?_ ?_ <;> split <;> omega)) | omega) (by (try dsimp only) <;> first | assumption | omega | ((try simp (disch := omega) only [w32_of, w64_of, w8_of]) <;> first | assumption | omega | (split <;> omega) | (refine And.intro ?_ ?_ <;> split <;> omega)) | omega) (by (try dsimp only) <;> first | assumption | omega | ((try simp (disch := omega) only [w32_of, w64_of, w8_of]) <;> first | assumption | omega | (split <;> omega) | (refine And.intro ?_ ?_ <;> split <;> omega)) | omega) (fun σ_83 hσ_83 eσ_83 => ?_)
                      try simp (disch := omega) only [w32_of, w64_of, w8_of] at eσ_83
                      have flσ_83 := FC_sg eσ_83 (by first | decide | (rcases hE with rfl | rfl | rfl <;> decide))
                      have frσ_83 : FC [kG_shellOf] [] σ σ_83 := FC_tr frσ_14 flσ_83 (by first | decide | (rcases hE with rfl | rfl | rfl <;> decide)) (by first | decide | (rcases hE with rfl | rfl | rfl <;> decide)) (by simp) (by simp)
                      exact wp_some ⟨hσ_83, frσ_83⟩
                    · try simp (disch := omega) only [w32_of, w64_of, w8_of, decide_eq_true_eq, decide_eq_false_iff_not, Bool.not_eq_true] at c36
                      exact wp_some ⟨hσ_14, frσ_14⟩
                  · try simp (disch := omega) only [w32_of, w64_of, w8_of, decide_eq_true_eq, decide_eq_false_iff_not, Bool.not_eq_true] at c32
                    exact wp_some ⟨hσ_14, frσ_14⟩
                · try simp (disch := omega) only [w32_of, w64_of, w8_of, decide_eq_true_eq, decide_eq_false_iff_not, Bool.not_eq_true] at c29
                  exact wp_some ⟨hσ_14, frσ_14⟩
              · try simp (disch := omega) only [w32_of, w64_of, w8_of, decide_eq_true_eq, decide_eq_false_iff_not, Bool.not_eq_true] at c28
                exact wp_some ⟨hσ_14, frσ_14⟩
            rintro σ_90 _ ⟨hσ_90, frσ_90⟩
            exact wp_some (x_inl ⟨⟨(by (try dsimp only) <;> first | assumption | omega | ((try simp (disch := omega) only [w32_of, w64_of, w8_of]) <;> first | assumption | omega | (split <;> omega) | (refine And.intro ?_ ?_ <;> split <;> omega)) | omega), hσ_90, frσ_90⟩, (by (try dsimp only) <;> first | assumption | omega | ((try simp (disch := omega) only [w32_of, w64_of, w8_of]) <;> first | assumption | omega | (split <;> omega) | (refine And.intro ?_ ?_ <;> split <;> omega)) | omega)⟩)
        · try simp (disch := omega) only [w32_of, w64_of, w8_of, decide_eq_true_eq, decide_eq_false_iff_not, Bool.not_eq_true] at c11
          exact wp_some (x_inr ⟨(by (try dsimp only) <;> first | assumption | omega | ((try simp (disch := omega) only [w32_of, w64_of, w8_of]) <;> first | assumption | omega | (split <;> omega) | (refine And.intro ?_ ?_ <;> split <;> omega)) | omega), hσ_14, frσ_14⟩)
      rintro ⟨shell_98, σ_99⟩ _ y38
      try dsimp only at y38 ⊢
      obtain ⟨g37, hσ_99, frσ_99⟩ := y38
      exact wp_some (x_inl ⟨⟨(by (try dsimp only) <;> first | assumption | omega | ((try simp (disch := omega) only [w32_of, w64_of, w8_of]) <;> first | assumption | omega | (split <;> omega) | (refine And.intro ?_ ?_ <;> split <;> omega)) | omega), hσ_99, frσ_99⟩, (by (try dsimp only) <;> first | assumption | omega | ((try simp (disch := omega) only [w32_of, w64_of, w8_of]) <;> first | assumption | omega | (split <;> omega) | (refine And.intro ?_ ?_ <;> split <;> omega)) | omega)⟩)
    · try simp (disch := omega) only [w32_of, w64_of, w8_of, decide_eq_true_eq, decide_eq_false_iff_not, Bool.not_eq_true] at c3
      exact wp_some (x_inr ⟨(by (try dsimp only) <;> first | assumption | omega | ((try simp (disch := omega) only [w32_of, w64_of, w8_of]) <;> first | assumption | omega | (split <;> omega) | (refine And.intro ?_ ?_ <;> split <;> omega)) | omega), hσ_2, frσ_2⟩)
  rintro ⟨hole_103, σ_104⟩ _ y40
  try dsimp only at y40 ⊢
  obtain ⟨g39, hσ_104, frσ_104⟩ := y40
  exact wp_some ⟨hσ_104, frσ_104⟩
theorem s_G_addIncident {σ : SG} {h_0 : Int} {piece_0 : Int} (hσ : II σ) (w0 : 0 ≤ h_0 ∧ h_0 ≤ 8191) (w1 : 0 ≤ piece_0 ∧ piece_0 ≤ 16383) (w2 : σ kG_begin (h_0 + 1) ≤ 32767) : wp_ (fG_addIncident σ h_0 piece_0) (fun zz_ => II zz_ ∧ FC [kG_begin, kG_incident] [] σ zz_ ∧ (zz_ kG_begin (h_0 + 1) = σ kG_begin (h_0 + 1) + 1) ∧ (∀ i, i ≠ h_0 + 1 → zz_ kG_begin i = σ kG_begin i)) := by
  unfold fG_addIncident
  have c1 := ii_kG_begin hσ (h_0 + 1)
  have c2 := w32_rng (h_0 + 1)
  refine wp_rdI (by (try dsimp only) <;> first | assumption | omega | ((try simp (disch := omega) only [w32_of, w64_of, w8_of]) <;> first | assumption | omega | (split <;> omega) | (refine And.intro ?_ ?_ <;> split <;> omega)) | omega) (by (try dsimp only) <;> first | assumption | omega | ((try simp (disch := omega) only [w32_of, w64_of, w8_of]) <;> first | assumption | omega | (split <;> omega) | (refine And.intro ?_ ?_ <;> split <;> omega)) | omega) (fun x_1 e_x_1 => ?_)
  have b_x_1 : 0 ≤ x_1 ∧ x_1 ≤ 32768 := by rw [e_x_1]; exact ii_kG_begin hσ _
  try simp (disch := omega) only [w32_of, w64_of, w8_of] at e_x_1
  have c3 := w32_rng x_1
  refine wp_waI hσ b_kG_incident (by (try dsimp only) <;> first | assumption | omega | ((try simp (disch := omega) only [w32_of, w64_of, w8_of]) <;> first | assumption | omega | (split <;> omega) | (refine And.intro ?_ ?_ <;> split <;> omega)) | omega) (by (try dsimp only) <;> first | assumption | omega | ((try simp (disch := omega) only [w32_of, w64_of, w8_of]) <;> first | assumption | omega | (split <;> omega) | (refine And.intro ?_ ?_ <;> split <;> omega)) | omega) (by (try dsimp only) <;> first | assumption | omega | ((try simp (disch := omega) only [w32_of, w64_of, w8_of]) <;> first | assumption | omega | (split <;> omega) | (refine And.intro ?_ ?_ <;> split <;> omega)) | omega) (fun σ_3 hσ_3 eσ_3 => ?_)
  try simp (disch := omega) only [w32_of, w64_of, w8_of] at eσ_3
  have flσ_3 := FC_sg eσ_3 (by first | decide | (rcases hE with rfl | rfl | rfl <;> decide))
  have frσ_3 : FC [kG_begin, kG_incident] [] σ σ_3 := FC_le flσ_3 (by first | decide | (rcases hE with rfl | rfl | rfl <;> decide)) (by simp)
  refine wp_rdI (by (try dsimp only) <;> first | assumption | omega | ((try simp (disch := omega) only [w32_of, w64_of, w8_of]) <;> first | assumption | omega | (split <;> omega) | (refine And.intro ?_ ?_ <;> split <;> omega)) | omega) (by (try dsimp only) <;> first | assumption | omega | ((try simp (disch := omega) only [w32_of, w64_of, w8_of]) <;> first | assumption | omega | (split <;> omega) | (refine And.intro ?_ ?_ <;> split <;> omega)) | omega) (fun x_5 e_x_5 => ?_)
  have b_x_5 : 0 ≤ x_5 ∧ x_5 ≤ 32768 := by rw [e_x_5]; exact ii_kG_begin hσ_3 _
  try simp (disch := omega) only [w32_of, w64_of, w8_of] at e_x_5
  have c4 := ii_kG_begin hσ_3 (h_0 + 1)
  have c5 := FC_at flσ_3 (c := kG_begin) (by first | decide | (rcases hE with rfl | rfl | rfl <;> decide)) (h_0 + 1)
  refine wp_waI hσ_3 b_kG_begin (by (try dsimp only) <;> first | assumption | omega | ((try simp (disch := omega) only [w32_of, w64_of, w8_of]) <;> first | assumption | omega | (split <;> omega) | (refine And.intro ?_ ?_ <;> split <;> omega)) | omega) (by (try dsimp only) <;> first | assumption | omega | ((try simp (disch := omega) only [w32_of, w64_of, w8_of]) <;> first | assumption | omega | (split <;> omega) | (refine And.intro ?_ ?_ <;> split <;> omega)) | omega) (by (try dsimp only) <;> first | assumption | omega | ((try simp (disch := omega) only [w32_of, w64_of, w8_of]) <;> first | assumption | omega | (split <;> omega) | (refine And.intro ?_ ?_ <;> split <;> omega)) | omega) (fun σ_7 hσ_7 eσ_7 => ?_)
  try simp (disch := omega) only [w32_of, w64_of, w8_of] at eσ_7
  have flσ_7 := FC_sg eσ_7 (by first | decide | (rcases hE with rfl | rfl | rfl <;> decide))
  have frσ_7 : FC [kG_begin, kG_incident] [] σ σ_7 := FC_tr frσ_3 flσ_7 (by first | decide | (rcases hE with rfl | rfl | rfl <;> decide)) (by first | decide | (rcases hE with rfl | rfl | rfl <;> decide)) (by simp) (by simp)
  have c6 := ii_kG_begin hσ_7 (h_0 + 1)
  have c7 := sg_val eσ_7
  exact wp_some ⟨hσ_7, frσ_7, (by (try dsimp only) <;> first | assumption | omega | ((try simp (disch := omega) only [w32_of, w64_of, w8_of]) <;> first | assumption | omega | (split <;> omega) | (refine And.intro ?_ ?_ <;> split <;> omega)) | omega), (by (try dsimp only) <;> (intro i hi; rw [eσ_7, sg_ni (by omega), eσ_3, sg_nc (by decide)]))⟩
theorem s_G_listIncident {σ : SG} (hσ : II σ) (w0 : PFs σ (σ kN_hot 0)) : wp_ (fG_listIncident σ) (fun zz_ => II zz_ ∧ FC [kG_begin, kG_incident] [] σ zz_) := by sorry
theorem s_G_firstNotBelow {σ : SG} {h_0 : Int} (hσ : II σ) (w0 : 0 ≤ h_0 ∧ h_0 ≤ 8191) : wp_ (fG_firstNotBelow σ h_0) (fun zz_ => (0 ≤ zz_ ∧ zz_ ≤ σ kG_actives 0)) := by
  unfold fG_firstNotBelow
  refine wp_bd (P := fun rr_ => (0 ≤ rr_.1 ∧ rr_.1 ≤ σ kG_actives 0)) ?_ ?_
  · have c1 := ii_kG_actives hσ 0
    refine wp_whl (fun ss_ => (0 ≤ ss_.1 ∧ ss_.1 ≤ ss_.2 ∧ ss_.2 ≤ σ kG_actives 0)) (fun ss_ => (ss_.2 - ss_.1).toNat) (by (try dsimp only) <;> first | assumption | omega | ((try simp (disch := omega) only [w32_of, w64_of, w8_of]) <;> first | assumption | omega | (split <;> omega) | (refine And.intro ?_ ?_ <;> split <;> omega)) | omega) ?_
    rintro ⟨low_1, high_2⟩ y3
    try dsimp only at y3 ⊢
    have g2 := y3
    have c5 := w32_rng low_1
    have c6 := w32_rng high_2
    refine wp_if (fun c4 => ?_) (fun c4 => ?_)
    · try simp (disch := omega) only [w32_of, w64_of, w8_of, decide_eq_true_eq, decide_eq_false_iff_not, Bool.not_eq_true] at c4
      have c7 := q_idv2 (high_2 - low_1) (by (try dsimp only) <;> first | assumption | omega | ((try simp (disch := omega) only [w32_of, w64_of, w8_of]) <;> first | assumption | omega | (split <;> omega) | (refine And.intro ?_ ?_ <;> split <;> omega)) | omega)
      try simp (disch := omega) only [w32_of, w64_of, w8_of] at c7
      have c8 := w32_rng (low_1 + (q_idv (high_2 - low_1) 2))
      refine wp_rdI (by (try dsimp only) <;> first | assumption | omega | ((try simp (disch := omega) only [w32_of, w64_of, w8_of]) <;> first | assumption | omega | (split <;> omega) | (refine And.intro ?_ ?_ <;> split <;> omega)) | omega) (by (try dsimp only) <;> first | assumption | omega | ((try simp (disch := omega) only [w32_of, w64_of, w8_of]) <;> first | assumption | omega | (split <;> omega) | (refine And.intro ?_ ?_ <;> split <;> omega)) | omega) (fun x_11 e_x_11 => ?_)
      have b_x_11 : 0 ≤ x_11 ∧ x_11 ≤ 16383 := by rw [e_x_11]; exact ii_kG_active hσ _
      try simp (disch := omega) only [w32_of, w64_of, w8_of] at e_x_11
      have c9 := ii_kG_active hσ (low_1 + (q_idv (high_2 - low_1) 2))
      refine wp_bd (P := fun rr_ => (0 ≤ rr_.1 ∧ rr_.1 ≤ rr_.2 ∧ rr_.2 ≤ high_2 ∧ low_1 ≤ rr_.1 ∧ (low_1 < rr_.1 ∨ rr_.2 < high_2))) ?_ ?_
      · have c10 := w32_rng x_11
        refine wp_rdI (by (try dsimp only) <;> first | assumption | omega | ((try simp (disch := omega) only [w32_of, w64_of, w8_of]) <;> first | assumption | omega | (split <;> omega) | (refine And.intro ?_ ?_ <;> split <;> omega)) | omega) (by (try dsimp only) <;> first | assumption | omega | ((try simp (disch := omega) only [w32_of, w64_of, w8_of]) <;> first | assumption | omega | (split <;> omega) | (refine And.intro ?_ ?_ <;> split <;> omega)) | omega) (fun x_17 e_x_17 => ?_)
        have b_x_17 : 0 ≤ x_17 ∧ x_17 ≤ 8191 := by rw [e_x_17]; exact ii_kN_pieceFrom hσ _
        try simp (disch := omega) only [w32_of, w64_of, w8_of] at e_x_17
        have c11 := ii_kN_pieceFrom hσ x_11
        refine wp_rdI (by (try dsimp only) <;> first | assumption | omega | ((try simp (disch := omega) only [w32_of, w64_of, w8_of]) <;> first | assumption | omega | (split <;> omega) | (refine And.intro ?_ ?_ <;> split <;> omega)) | omega) (by (try dsimp only) <;> first | assumption | omega | ((try simp (disch := omega) only [w32_of, w64_of, w8_of]) <;> first | assumption | omega | (split <;> omega) | (refine And.intro ?_ ?_ <;> split <;> omega)) | omega) (fun x_19 e_x_19 => ?_)
        have b_x_19 : 0 ≤ x_19 ∧ x_19 ≤ 8191 := by rw [e_x_19]; exact ii_kN_pieceTo hσ _
        try simp (disch := omega) only [w32_of, w64_of, w8_of] at e_x_19
        have c12 := ii_kN_pieceTo hσ x_11
        refine wp_bd (s_G_turnAt (σ := σ) (a_0 := x_17) (b_0 := x_19) (c_0 := h_0) hσ (by (try dsimp only) <;> first | assumption | omega | ((try simp (disch := omega) only [w32_of, w64_of, w8_of]) <;> first | assumption | omega | (split <;> omega) | (refine And.intro ?_ ?_ <;> split <;> omega)) | omega) (by (try dsimp only) <;> first | assumption | omega | ((try simp (disch := omega) only [w32_of, w64_of, w8_of]) <;> first | assumption | omega | (split <;> omega) | (refine And.intro ?_ ?_ <;> split <;> omega)) | omega) (by (try dsimp only) <;> first | assumption | omega | ((try simp (disch := omega) only [w32_of, w64_of, w8_of]) <;> first | assumption | omega | (split <;> omega) | (refine And.intro ?_ ?_ <;> split <;> omega)) | omega)) ?_
        rintro x_22 - g13
        try simp (disch := omega) only [w32_of, w64_of, w8_of] at g13
        have c15 := w32_rng x_22
        refine wp_if (fun c14 => ?_) (fun c14 => ?_)
        · try simp (disch := omega) only [w32_of, w64_of, w8_of, decide_eq_true_eq, decide_eq_false_iff_not, Bool.not_eq_true] at c14
          exact wp_some (by (try dsimp only) <;> first | assumption | omega | ((try simp (disch := omega) only [w32_of, w64_of, w8_of]) <;> first | assumption | omega | (split <;> omega) | (refine And.intro ?_ ?_ <;> split <;> omega)) | omega)
        · try simp (disch := omega) only [w32_of, w64_of, w8_of, decide_eq_true_eq, decide_eq_false_iff_not, Bool.not_eq_true] at c14
          exact wp_some (by (try dsimp only) <;> first | assumption | omega | ((try simp (disch := omega) only [w32_of, w64_of, w8_of]) <;> first | assumption | omega | (split <;> omega) | (refine And.intro ?_ ?_ <;> split <;> omega)) | omega)
      rintro ⟨low_26, high_27⟩ _ y17
      try dsimp only at y17 ⊢
      have g16 := y17
      exact wp_some (x_inl ⟨(by (try dsimp only) <;> first | assumption | omega | ((try simp (disch := omega) only [w32_of, w64_of, w8_of]) <;> first | assumption | omega | (split <;> omega) | (refine And.intro ?_ ?_ <;> split <;> omega)) | omega), (by (try dsimp only) <;> first | assumption | omega | ((try simp (disch := omega) only [w32_of, w64_of, w8_of]) <;> first | assumption | omega | (split <;> omega) | (refine And.intro ?_ ?_ <;> split <;> omega)) | omega)⟩)
    · try simp (disch := omega) only [w32_of, w64_of, w8_of, decide_eq_true_eq, decide_eq_false_iff_not, Bool.not_eq_true] at c4
      exact wp_some (x_inr (by (try dsimp only) <;> first | assumption | omega | ((try simp (disch := omega) only [w32_of, w64_of, w8_of]) <;> first | assumption | omega | (split <;> omega) | (refine And.intro ?_ ?_ <;> split <;> omega)) | omega))
  rintro ⟨low_31, high_32⟩ _ y19
  try dsimp only at y19 ⊢
  have g18 := y19
  have c20 := ii_kG_actives hσ 0
  exact wp_some (by (try dsimp only) <;> first | assumption | omega | ((try simp (disch := omega) only [w32_of, w64_of, w8_of]) <;> first | assumption | omega | (split <;> omega) | (refine And.intro ?_ ?_ <;> split <;> omega)) | omega)
theorem s_G_replaceActive {σ : SG} {low_0 : Int} {high_0 : Int} {begun_0 : Int} {fresh_0 : Int} (hσ : II σ) (w0 : 0 ≤ low_0 ∧ low_0 ≤ high_0 ∧ high_0 ≤ σ kG_actives 0) (w1 : 0 ≤ begun_0 ∧ begun_0 ≤ fresh_0 ∧ fresh_0 ≤ 16384) (w2 : σ kG_actives 0 - (high_0 - low_0) + (fresh_0 - begun_0) ≤ 16384) : wp_ (fG_replaceActive σ low_0 high_0 begun_0 fresh_0) (fun zz_ => II zz_ ∧ FC [kG_above, kG_active, kG_actives] [] σ zz_ ∧ (zz_ kG_actives 0 = σ kG_actives 0 + (fresh_0 - begun_0 - (high_0 - low_0)))) := by sorry
theorem s_G_sweep {σ : SG} (hσ : II σ) : wp_ (fG_sweep σ) (fun zz_ => II zz_ ∧ FC [kG_above, kG_active, kG_actives] [] σ zz_) := by
  unfold fG_sweep
  refine wp_wfI hσ b_kG_actives (by (try dsimp only) <;> first | assumption | omega | ((try simp (disch := omega) only [w32_of, w64_of, w8_of]) <;> first | assumption | omega | (split <;> omega) | (refine And.intro ?_ ?_ <;> split <;> omega)) | omega) (fun σ_1 hσ_1 eσ_1 => ?_)
  try simp (disch := omega) only [w32_of, w64_of, w8_of] at eσ_1
  have flσ_1 := FC_sg eσ_1 (by first | decide | (rcases hE with rfl | rfl | rfl <;> decide))
  have frσ_1 : FC [kG_above, kG_active, kG_actives] [] σ σ_1 := FC_le flσ_1 (by first | decide | (rcases hE with rfl | rfl | rfl <;> decide)) (by simp)
  refine wp_bd (P := fun rr_ => II rr_.2.2 ∧ FC [kG_above, kG_active, kG_actives] [] σ rr_.2.2 ∧ (True)) ?_ ?_
  · have c1 := ii_kG_actives hσ_1 0
    have c2 := sg_val eσ_1
    refine wp_whl (fun ss_ => II ss_.2.2 ∧ FC [kG_above, kG_active, kG_actives] [] σ ss_.2.2 ∧ (0 ≤ ss_.2.1 ∧ ss_.2.1 ≤ 8192) ∧ (0 ≤ ss_.1 ∧ ss_.1 ≤ 16384) ∧ (ss_.2.2 kG_actives 0 ≤ ss_.1)) (fun ss_ => (8193 - ss_.2.1).toNat) ⟨hσ_1, frσ_1, (by (try dsimp only) <;> first | assumption | omega | ((try simp (disch := omega) only [w32_of, w64_of, w8_of]) <;> first | assumption | omega | (split <;> omega) | (refine And.intro ?_ ?_ <;> split <;> omega)) | omega), (by (try dsimp only) <;> first | assumption | omega | ((try simp (disch := omega) only [w32_of, w64_of, w8_of]) <;> first | assumption | omega | (split <;> omega) | (refine And.intro ?_ ?_ <;> split <;> omega)) | omega), (by (try dsimp only) <;> first | assumption | omega | ((try simp (disch := omega) only [w32_of, w64_of, w8_of]) <;> first | assumption | omega | (split <;> omega) | (refine And.intro ?_ ?_ <;> split <;> omega)) | omega)⟩ ?_
    rintro ⟨fresh_2, h_3, σ_4⟩ y6
    try dsimp only at y6 ⊢
    obtain ⟨hσ_4, frσ_4, g3, g4, g5⟩ := y6
    have c8 := w32_rng h_3
    have c9 := ii_kN_hot hσ_4 0
    have c10 := FC_at frσ_4 (c := kN_hot) (by first | decide | (rcases hE with rfl | rfl | rfl <;> decide)) 0
    have c11 := ii_kN_hot hσ 0
    have c12 := w32_rng (σ_4 kN_hot 0)
    refine wp_if (fun c7 => ?_) (fun c7 => ?_)
    · try simp (disch := omega) only [w32_of, w64_of, w8_of, decide_eq_true_eq, decide_eq_false_iff_not, Bool.not_eq_true] at c7
      refine wp_bd (s_G_firstNotBelow (σ := σ_4) (h_0 := h_3) hσ_4 (by (try dsimp only) <;> first | assumption | omega | ((try simp (disch := omega) only [w32_of, w64_of, w8_of]) <;> first | assumption | omega | (split <;> omega) | (refine And.intro ?_ ?_ <;> split <;> omega)) | omega)) ?_
      rintro x_14 - g13
      have c14 := ii_kG_actives hσ_4 0
      try simp (disch := omega) only [w32_of, w64_of, w8_of] at g13
      refine wp_bd (P := fun rr_ => (x_14 ≤ rr_ ∧ rr_ ≤ σ_4 kG_actives 0)) ?_ ?_
      · refine wp_whl (fun ss_ => (x_14 ≤ ss_ ∧ ss_ ≤ σ_4 kG_actives 0)) (fun ss_ => (16385 - ss_).toNat) (by (try dsimp only) <;> first | assumption | omega | ((try simp (disch := omega) only [w32_of, w64_of, w8_of]) <;> first | assumption | omega | (split <;> omega) | (refine And.intro ?_ ?_ <;> split <;> omega)) | omega) ?_
        rintro high_15 g15
        have c17 := w32_rng high_15
        have c18 := w32_rng (σ_4 kG_actives 0)
        refine wp_if (fun c16 => ?_) (fun c16 => ?_)
        · try simp (disch := omega) only [w32_of, w64_of, w8_of, decide_eq_true_eq, decide_eq_false_iff_not, Bool.not_eq_true] at c16
          refine wp_rdI (by (try dsimp only) <;> first | assumption | omega | ((try simp (disch := omega) only [w32_of, w64_of, w8_of]) <;> first | assumption | omega | (split <;> omega) | (refine And.intro ?_ ?_ <;> split <;> omega)) | omega) (by (try dsimp only) <;> first | assumption | omega | ((try simp (disch := omega) only [w32_of, w64_of, w8_of]) <;> first | assumption | omega | (split <;> omega) | (refine And.intro ?_ ?_ <;> split <;> omega)) | omega) (fun x_34 e_x_34 => ?_)
          have b_x_34 : 0 ≤ x_34 ∧ x_34 ≤ 16383 := by rw [e_x_34]; exact ii_kG_active hσ_4 _
          try simp (disch := omega) only [w32_of, w64_of, w8_of] at e_x_34
          have c19 := ii_kG_active hσ_4 high_15
          have c20 := w32_rng x_34
          refine wp_rdI (by (try dsimp only) <;> first | assumption | omega | ((try simp (disch := omega) only [w32_of, w64_of, w8_of]) <;> first | assumption | omega | (split <;> omega) | (refine And.intro ?_ ?_ <;> split <;> omega)) | omega) (by (try dsimp only) <;> first | assumption | omega | ((try simp (disch := omega) only [w32_of, w64_of, w8_of]) <;> first | assumption | omega | (split <;> omega) | (refine And.intro ?_ ?_ <;> split <;> omega)) | omega) (fun x_36 e_x_36 => ?_)
          have b_x_36 : 0 ≤ x_36 ∧ x_36 ≤ 8191 := by rw [e_x_36]; exact ii_kN_pieceTo hσ_4 _
          rw [FC_at frσ_4 (c := kN_pieceTo) (by first | decide | (rcases hE with rfl | rfl | rfl <;> decide))] at e_x_36
          try simp (disch := omega) only [w32_of, w64_of, w8_of] at e_x_36
          have c21 := ii_kN_pieceTo hσ_4 x_34
          have c22 := FC_at frσ_4 (c := kN_pieceTo) (by first | decide | (rcases hE with rfl | rfl | rfl <;> decide)) x_34
          have c23 := ii_kN_pieceTo hσ x_34
          have c25 := w32_rng x_36
          refine wp_if (fun c24 => ?_) (fun c24 => ?_)
          · try simp (disch := omega) only [w32_of, w64_of, w8_of, decide_eq_true_eq, decide_eq_false_iff_not, Bool.not_eq_true] at c24
            exact wp_some (x_inl ⟨(by (try dsimp only) <;> first | assumption | omega | ((try simp (disch := omega) only [w32_of, w64_of, w8_of]) <;> first | assumption | omega | (split <;> omega) | (refine And.intro ?_ ?_ <;> split <;> omega)) | omega), (by (try dsimp only) <;> first | assumption | omega | ((try simp (disch := omega) only [w32_of, w64_of, w8_of]) <;> first | assumption | omega | (split <;> omega) | (refine And.intro ?_ ?_ <;> split <;> omega)) | omega)⟩)
          · try simp (disch := omega) only [w32_of, w64_of, w8_of, decide_eq_true_eq, decide_eq_false_iff_not, Bool.not_eq_true] at c24
            exact wp_some (x_inr (by (try dsimp only) <;> first | assumption | omega | ((try simp (disch := omega) only [w32_of, w64_of, w8_of]) <;> first | assumption | omega | (split <;> omega) | (refine And.intro ?_ ?_ <;> split <;> omega)) | omega))
        · try simp (disch := omega) only [w32_of, w64_of, w8_of, decide_eq_true_eq, decide_eq_false_iff_not, Bool.not_eq_true] at c16
          exact wp_some (x_inr (by (try dsimp only) <;> first | assumption | omega | ((try simp (disch := omega) only [w32_of, w64_of, w8_of]) <;> first | assumption | omega | (split <;> omega) | (refine And.intro ?_ ?_ <;> split <;> omega)) | omega))
      rintro high_42 _ g26
      refine wp_bd (P := fun rr_ => (fresh_2 ≤ rr_ ∧ rr_ ≤ 16384)) ?_ ?_
      · refine wp_whl (fun ss_ => (fresh_2 ≤ ss_ ∧ ss_ ≤ 16384)) (fun ss_ => (16385 - ss_).toNat) (by (try dsimp only) <;> first | assumption | omega | ((try simp (disch := omega) only [w32_of, w64_of, w8_of]) <;> first | assumption | omega | (split <;> omega) | (refine And.intro ?_ ?_ <;> split <;> omega)) | omega) ?_
        rintro fresh_43 g27
        have c29 := w32_rng fresh_43
        have c30 := ii_kN_pieces hσ_4 0
        have c31 := FC_at frσ_4 (c := kN_pieces) (by first | decide | (rcases hE with rfl | rfl | rfl <;> decide)) 0
        have c32 := ii_kN_pieces hσ 0
        have c33 := w32_rng (σ_4 kN_pieces 0)
        refine wp_if (fun c28 => ?_) (fun c28 => ?_)
        · try simp (disch := omega) only [w32_of, w64_of, w8_of, decide_eq_true_eq, decide_eq_false_iff_not, Bool.not_eq_true] at c28
          refine wp_rdI (by (try dsimp only) <;> first | assumption | omega | ((try simp (disch := omega) only [w32_of, w64_of, w8_of]) <;> first | assumption | omega | (split <;> omega) | (refine And.intro ?_ ?_ <;> split <;> omega)) | omega) (by (try dsimp only) <;> first | assumption | omega | ((try simp (disch := omega) only [w32_of, w64_of, w8_of]) <;> first | assumption | omega | (split <;> omega) | (refine And.intro ?_ ?_ <;> split <;> omega)) | omega) (fun x_60 e_x_60 => ?_)
          have b_x_60 : 0 ≤ x_60 ∧ x_60 ≤ 8191 := by rw [e_x_60]; exact ii_kN_pieceFrom hσ_4 _
          rw [FC_at frσ_4 (c := kN_pieceFrom) (by first | decide | (rcases hE with rfl | rfl | rfl <;> decide))] at e_x_60
          try simp (disch := omega) only [w32_of, w64_of, w8_of] at e_x_60
          have c34 := ii_kN_pieceFrom hσ_4 fresh_43
          have c35 := FC_at frσ_4 (c := kN_pieceFrom) (by first | decide | (rcases hE with rfl | rfl | rfl <;> decide)) fresh_43
          have c36 := ii_kN_pieceFrom hσ fresh_43
          have c38 := w32_rng x_60
          refine wp_if (fun c37 => ?_) (fun c37 => ?_)
          · try simp (disch := omega) only [w32_of, w64_of, w8_of, decide_eq_true_eq, decide_eq_false_iff_not, Bool.not_eq_true] at c37
            exact wp_some (x_inl ⟨(by (try dsimp only) <;> first | assumption | omega | ((try simp (disch := omega) only [w32_of, w64_of, w8_of]) <;> first | assumption | omega | (split <;> omega) | (refine And.intro ?_ ?_ <;> split <;> omega)) | omega), (by (try dsimp only) <;> first | assumption | omega | ((try simp (disch := omega) only [w32_of, w64_of, w8_of]) <;> first | assumption | omega | (split <;> omega) | (refine And.intro ?_ ?_ <;> split <;> omega)) | omega)⟩)
          · try simp (disch := omega) only [w32_of, w64_of, w8_of, decide_eq_true_eq, decide_eq_false_iff_not, Bool.not_eq_true] at c37
            exact wp_some (x_inr (by (try dsimp only) <;> first | assumption | omega | ((try simp (disch := omega) only [w32_of, w64_of, w8_of]) <;> first | assumption | omega | (split <;> omega) | (refine And.intro ?_ ?_ <;> split <;> omega)) | omega))
        · try simp (disch := omega) only [w32_of, w64_of, w8_of, decide_eq_true_eq, decide_eq_false_iff_not, Bool.not_eq_true] at c28
          exact wp_some (x_inr (by (try dsimp only) <;> first | assumption | omega | ((try simp (disch := omega) only [w32_of, w64_of, w8_of]) <;> first | assumption | omega | (split <;> omega) | (refine And.intro ?_ ?_ <;> split <;> omega)) | omega))
      rintro fresh_66 _ g39
      refine wp_bd (s_G_replaceActive (σ := σ_4) (low_0 := x_14) (high_0 := high_42) (begun_0 := fresh_2) (fresh_0 := fresh_66) hσ_4 (by (try dsimp only) <;> first | assumption | omega | ((try simp (disch := omega) only [w32_of, w64_of, w8_of]) <;> first | assumption | omega | (split <;> omega) | (refine And.intro ?_ ?_ <;> split <;> omega)) | omega) (by (try dsimp only) <;> first | assumption | omega | ((try simp (disch := omega) only [w32_of, w64_of, w8_of]) <;> first | assumption | omega | (split <;> omega) | (refine And.intro ?_ ?_ <;> split <;> omega)) | omega) (by (try dsimp only) <;> first | assumption | omega | ((try simp (disch := omega) only [w32_of, w64_of, w8_of]) <;> first | assumption | omega | (split <;> omega) | (refine And.intro ?_ ?_ <;> split <;> omega)) | omega)) ?_
      rintro σ_68 - ⟨hσ_68, flσ_68, g40⟩
      have frσ_68 : FC [kG_above, kG_active, kG_actives] [] σ σ_68 := FC_tr frσ_4 flσ_68 (by first | decide | (rcases hE with rfl | rfl | rfl <;> decide)) (by first | decide | (rcases hE with rfl | rfl | rfl <;> decide)) (by simp) (by simp)
      have c41 := ii_kG_actives hσ_68 0
      try simp (disch := omega) only [w32_of, w64_of, w8_of] at g40
      exact wp_some (x_inl ⟨⟨hσ_68, frσ_68, (by (try dsimp only) <;> first | assumption | omega | ((try simp (disch := omega) only [w32_of, w64_of, w8_of]) <;> first | assumption | omega | (split <;> omega) | (refine And.intro ?_ ?_ <;> split <;> omega)) | omega), (by (try dsimp only) <;> first | assumption | omega | ((try simp (disch := omega) only [w32_of, w64_of, w8_of]) <;> first | assumption | omega | (split <;> omega) | (refine And.intro ?_ ?_ <;> split <;> omega)) | omega), (by (try dsimp only) <;> first | assumption | omega | ((try simp (disch := omega) only [w32_of, w64_of, w8_of]) <;> first | assumption | omega | (split <;> omega) | (refine And.intro ?_ ?_ <;> split <;> omega)) | omega)⟩, (by (try dsimp only) <;> first | assumption | omega | ((try simp (disch := omega) only [w32_of, w64_of, w8_of]) <;> first | assumption | omega | (split <;> omega) | (refine And.intro ?_ ?_ <;> split <;> omega)) | omega)⟩)
    · try simp (disch := omega) only [w32_of, w64_of, w8_of, decide_eq_true_eq, decide_eq_false_iff_not, Bool.not_eq_true] at c7
      exact wp_some (x_inr ⟨hσ_4, frσ_4, (by (try dsimp only) <;> first | assumption | omega | ((try simp (disch := omega) only [w32_of, w64_of, w8_of]) <;> first | assumption | omega | (split <;> omega) | (refine And.intro ?_ ?_ <;> split <;> omega)) | omega)⟩)
  rintro ⟨fresh_73, h_74, σ_75⟩ _ y43
  try dsimp only at y43 ⊢
  obtain ⟨hσ_75, frσ_75, g42⟩ := y43
  exact wp_some ⟨hσ_75, frσ_75⟩
theorem s_G_isFartherLeft {σ : SG} {h_0 : Int} {back_0 : Int} {a_0 : Int} {b_0 : Int} (hσ : II σ) (w0 : 0 ≤ h_0 ∧ h_0 ≤ 8191) (w1 : 0 ≤ back_0 ∧ back_0 ≤ 8191) (w2 : 0 ≤ a_0 ∧ a_0 ≤ 8191) (w3 : 0 ≤ b_0 ∧ b_0 ≤ 8191) : wp_ (fG_isFartherLeft σ h_0 back_0 a_0 b_0) (fun zz_ => True) := by
  unfold fG_isFartherLeft
  refine wp_bd (s_G_turnAt (σ := σ) (a_0 := h_0) (b_0 := back_0) (c_0 := a_0) hσ (by (try dsimp only) <;> first | assumption | omega | ((try simp (disch := omega) only [w32_of, w64_of, w8_of]) <;> first | assumption | omega | (split <;> omega) | (refine And.intro ?_ ?_ <;> split <;> omega)) | omega) (by (try dsimp only) <;> first | assumption | omega | ((try simp (disch := omega) only [w32_of, w64_of, w8_of]) <;> first | assumption | omega | (split <;> omega) | (refine And.intro ?_ ?_ <;> split <;> omega)) | omega) (by (try dsimp only) <;> first | assumption | omega | ((try simp (disch := omega) only [w32_of, w64_of, w8_of]) <;> first | assumption | omega | (split <;> omega) | (refine And.intro ?_ ?_ <;> split <;> omega)) | omega)) ?_
  rintro x_2 - g1
  try simp (disch := omega) only [w32_of, w64_of, w8_of] at g1
  refine wp_bd (s_G_turnAt (σ := σ) (a_0 := h_0) (b_0 := back_0) (c_0 := b_0) hσ (by (try dsimp only) <;> first | assumption | omega | ((try simp (disch := omega) only [w32_of, w64_of, w8_of]) <;> first | assumption | omega | (split <;> omega) | (refine And.intro ?_ ?_ <;> split <;> omega)) | omega) (by (try dsimp only) <;> first | assumption | omega | ((try simp (disch := omega) only [w32_of, w64_of, w8_of]) <;> first | assumption | omega | (split <;> omega) | (refine And.intro ?_ ?_ <;> split <;> omega)) | omega) (by (try dsimp only) <;> first | assumption | omega | ((try simp (disch := omega) only [w32_of, w64_of, w8_of]) <;> first | assumption | omega | (split <;> omega) | (refine And.intro ?_ ?_ <;> split <;> omega)) | omega)) ?_
  rintro x_4 - g2
  try simp (disch := omega) only [w32_of, w64_of, w8_of] at g2
  have c4 := w32_rng x_2
  have c5 := w32_rng x_4
  refine wp_if (fun c3 => ?_) (fun c3 => ?_)
  · try simp (disch := omega) only [w32_of, w64_of, w8_of, decide_eq_true_eq, decide_eq_false_iff_not, Bool.not_eq_true] at c3
    exact wp_some trivial
  · try simp (disch := omega) only [w32_of, w64_of, w8_of, decide_eq_true_eq, decide_eq_false_iff_not, Bool.not_eq_true] at c3
    refine wp_bd (P := fun rr_ => True) ?_ ?_
    · refine wp_bd (s_G_turnAt (σ := σ) (a_0 := h_0) (b_0 := a_0) (c_0 := b_0) hσ (by (try dsimp only) <;> first | assumption | omega | ((try simp (disch := omega) only [w32_of, w64_of, w8_of]) <;> first | assumption | omega | (split <;> omega) | (refine And.intro ?_ ?_ <;> split <;> omega)) | omega) (by (try dsimp only) <;> first | assumption | omega | ((try simp (disch := omega) only [w32_of, w64_of, w8_of]) <;> first | assumption | omega | (split <;> omega) | (refine And.intro ?_ ?_ <;> split <;> omega)) | omega) (by (try dsimp only) <;> first | assumption | omega | ((try simp (disch := omega) only [w32_of, w64_of, w8_of]) <;> first | assumption | omega | (split <;> omega) | (refine And.intro ?_ ?_ <;> split <;> omega)) | omega)) ?_
      rintro x_9 - g6
      try simp (disch := omega) only [w32_of, w64_of, w8_of] at g6
      have c8 := w32_rng x_9
      refine wp_if (fun c7 => ?_) (fun c7 => ?_)
      · try simp (disch := omega) only [w32_of, w64_of, w8_of, decide_eq_true_eq, decide_eq_false_iff_not, Bool.not_eq_true] at c7
        exact wp_some trivial
      · try simp (disch := omega) only [w32_of, w64_of, w8_of, decide_eq_true_eq, decide_eq_false_iff_not, Bool.not_eq_true] at c7
        exact wp_some trivial
    rintro x_13 _ -
    exact wp_some trivial
theorem s_G_nextPiece {σ : SG} {piece_0 : Int} {h_0 : Int} (hσ : II σ) (w0 : 0 ≤ piece_0 ∧ piece_0 ≤ 16383) (w1 : 0 ≤ h_0 ∧ h_0 ≤ 8191) : wp_ (fG_nextPiece σ piece_0 h_0) (fun zz_ => (-1 ≤ zz_ ∧ zz_ ≤ 16383)) := by
  unfold fG_nextPiece
  refine wp_bd (s_G_startOf (σ := σ) (piece_0 := piece_0) hσ (by (try dsimp only) <;> first | assumption | omega | ((try simp (disch := omega) only [w32_of, w64_of, w8_of]) <;> first | assumption | omega | (split <;> omega) | (refine And.intro ?_ ?_ <;> split <;> omega)) | omega)) ?_
  rintro x_2 - g1
  try simp (disch := omega) only [w32_of, w64_of, w8_of] at g1
  have c2 := w32_rng h_0
  refine wp_rdI (by (try dsimp only) <;> first | assumption | omega | ((try simp (disch := omega) only [w32_of, w64_of, w8_of]) <;> first | assumption | omega | (split <;> omega) | (refine And.intro ?_ ?_ <;> split <;> omega)) | omega) (by (try dsimp only) <;> first | assumption | omega | ((try simp (disch := omega) only [w32_of, w64_of, w8_of]) <;> first | assumption | omega | (split <;> omega) | (refine And.intro ?_ ?_ <;> split <;> omega)) | omega) (fun x_3 e_x_3 => ?_)
  have b_x_3 : 0 ≤ x_3 ∧ x_3 ≤ 32768 := by rw [e_x_3]; exact ii_kG_begin hσ _
  try simp (disch := omega) only [w32_of, w64_of, w8_of] at e_x_3
  have c3 := ii_kG_begin hσ h_0
  refine wp_bd (P := fun rr_ => (-1 ≤ rr_.1 ∧ rr_.1 ≤ 16383)) ?_ ?_
  · refine wp_whl (fun ss_ => (-1 ≤ ss_.1 ∧ ss_.1 ≤ 16383) ∧ (0 ≤ ss_.2 ∧ ss_.2 ≤ 32768)) (fun ss_ => (32769 - ss_.2).toNat) ⟨(by (try dsimp only) <;> first | assumption | omega | ((try simp (disch := omega) only [w32_of, w64_of, w8_of]) <;> first | assumption | omega | (split <;> omega) | (refine And.intro ?_ ?_ <;> split <;> omega)) | omega), (by (try dsimp only) <;> first | assumption | omega | ((try simp (disch := omega) only [w32_of, w64_of, w8_of]) <;> first | assumption | omega | (split <;> omega) | (refine And.intro ?_ ?_ <;> split <;> omega)) | omega)⟩ ?_
    rintro ⟨best_5, k_6⟩ y6
    try dsimp only at y6 ⊢
    obtain ⟨g4, g5⟩ := y6
    have c7 := w32_rng (h_0 + 1)
    refine wp_rdI (by (try dsimp only) <;> first | assumption | omega | ((try simp (disch := omega) only [w32_of, w64_of, w8_of]) <;> first | assumption | omega | (split <;> omega) | (refine And.intro ?_ ?_ <;> split <;> omega)) | omega) (by (try dsimp only) <;> first | assumption | omega | ((try simp (disch := omega) only [w32_of, w64_of, w8_of]) <;> first | assumption | omega | (split <;> omega) | (refine And.intro ?_ ?_ <;> split <;> omega)) | omega) (fun x_14 e_x_14 => ?_)
    have b_x_14 : 0 ≤ x_14 ∧ x_14 ≤ 32768 := by rw [e_x_14]; exact ii_kG_begin hσ _
    try simp (disch := omega) only [w32_of, w64_of, w8_of] at e_x_14
    have c8 := ii_kG_begin hσ (h_0 + 1)
    have c10 := w32_rng k_6
    have c11 := w32_rng x_14
    refine wp_if (fun c9 => ?_) (fun c9 => ?_)
    · try simp (disch := omega) only [w32_of, w64_of, w8_of, decide_eq_true_eq, decide_eq_false_iff_not, Bool.not_eq_true] at c9
      refine wp_rdI (by (try dsimp only) <;> first | assumption | omega | ((try simp (disch := omega) only [w32_of, w64_of, w8_of]) <;> first | assumption | omega | (split <;> omega) | (refine And.intro ?_ ?_ <;> split <;> omega)) | omega) (by (try dsimp only) <;> first | assumption | omega | ((try simp (disch := omega) only [w32_of, w64_of, w8_of]) <;> first | assumption | omega | (split <;> omega) | (refine And.intro ?_ ?_ <;> split <;> omega)) | omega) (fun x_17 e_x_17 => ?_)
      have b_x_17 : 0 ≤ x_17 ∧ x_17 ≤ 16383 := by rw [e_x_17]; exact ii_kG_incident hσ _
      try simp (disch := omega) only [w32_of, w64_of, w8_of] at e_x_17
      have c12 := ii_kG_incident hσ k_6
      refine wp_bd (P := fun rr_ => (-1 ≤ rr_ ∧ rr_ ≤ 16383)) ?_ ?_
      · have c14 := w32_rng x_17
        have c15 := w32_rng piece_0
        refine wp_if (fun c13 => ?_) (fun c13 => ?_)
        · try simp (disch := omega) only [w32_of, w64_of, w8_of, decide_eq_true_eq, decide_eq_false_iff_not, Bool.not_eq_true] at c13
          have c17 := w32_rng best_5
          refine wp_if (fun c16 => ?_) (fun c16 => ?_)
          · try simp (disch := omega) only [w32_of, w64_of, w8_of, decide_eq_true_eq, decide_eq_false_iff_not, Bool.not_eq_true] at c16
            exact wp_some (by (try dsimp only) <;> first | assumption | omega | ((try simp (disch := omega) only [w32_of, w64_of, w8_of]) <;> first | assumption | omega | (split <;> omega) | (refine And.intro ?_ ?_ <;> split <;> omega)) | omega)
          · try simp (disch := omega) only [w32_of, w64_of, w8_of, decide_eq_true_eq, decide_eq_false_iff_not, Bool.not_eq_true] at c16
            refine wp_bd (s_G_otherEnd (σ := σ) (piece_0 := best_5) (h_0 := h_0) hσ (by (try dsimp only) <;> first | assumption | omega | ((try simp (disch := omega) only [w32_of, w64_of, w8_of]) <;> first | assumption | omega | (split <;> omega) | (refine And.intro ?_ ?_ <;> split <;> omega)) | omega) (by (try dsimp only) <;> first | assumption | omega | ((try simp (disch := omega) only [w32_of, w64_of, w8_of]) <;> first | assumption | omega | (split <;> omega) | (refine And.intro ?_ ?_ <;> split <;> omega)) | omega)) ?_
            rintro x_42 - g18
            try simp (disch := omega) only [w32_of, w64_of, w8_of] at g18
            refine wp_bd (s_G_otherEnd (σ := σ) (piece_0 := x_17) (h_0 := h_0) hσ (by (try dsimp only) <;> first | assumption | omega | ((try simp (disch := omega) only [w32_of, w64_of, w8_of]) <;> first | assumption | omega | (split <;> omega) | (refine And.intro ?_ ?_ <;> split <;> omega)) | omega) (by (try dsimp only) <;> first | assumption | omega | ((try simp (disch := omega) only [w32_of, w64_of, w8_of]) <;> first | assumption | omega | (split <;> omega) | (refine And.intro ?_ ?_ <;> split <;> omega)) | omega)) ?_
            rintro x_44 - g19
            try simp (disch := omega) only [w32_of, w64_of, w8_of] at g19
            refine wp_bd (s_G_isFartherLeft (σ := σ) (h_0 := h_0) (back_0 := x_2) (a_0 := x_42) (b_0 := x_44) hσ (by (try dsimp only) <;> first | assumption | omega | ((try simp (disch := omega) only [w32_of, w64_of, w8_of]) <;> first | assumption | omega | (split <;> omega) | (refine And.intro ?_ ?_ <;> split <;> omega)) | omega) (by (try dsimp only) <;> first | assumption | omega | ((try simp (disch := omega) only [w32_of, w64_of, w8_of]) <;> first | assumption | omega | (split <;> omega) | (refine And.intro ?_ ?_ <;> split <;> omega)) | omega) (by (try dsimp only) <;> first | assumption | omega | ((try simp (disch := omega) only [w32_of, w64_of, w8_of]) <;> first | assumption | omega | (split <;> omega) | (refine And.intro ?_ ?_ <;> split <;> omega)) | omega) (by (try dsimp only) <;> first | assumption | omega | ((try simp (disch := omega) only [w32_of, w64_of, w8_of]) <;> first | assumption | omega | (split <;> omega) | (refine And.intro ?_ ?_ <;> split <;> omega)) | omega)) ?_
            rintro x_46 - -
            refine wp_if (fun c21 => ?_) (fun c21 => ?_)
            · try simp (disch := omega) only [w32_of, w64_of, w8_of, decide_eq_true_eq, decide_eq_false_iff_not, Bool.not_eq_true] at c21
              exact wp_some (by (try dsimp only) <;> first | assumption | omega | ((try simp (disch := omega) only [w32_of, w64_of, w8_of]) <;> first | assumption | omega | (split <;> omega) | (refine And.intro ?_ ?_ <;> split <;> omega)) | omega)
            · try simp (disch := omega) only [w32_of, w64_of, w8_of, decide_eq_true_eq, decide_eq_false_iff_not, Bool.not_eq_true] at c21
              exact wp_some (by (try dsimp only) <;> first | assumption | omega | ((try simp (disch := omega) only [w32_of, w64_of, w8_of]) <;> first | assumption | omega | (split <;> omega) | (refine And.intro ?_ ?_ <;> split <;> omega)) | omega)
        · try simp (disch := omega) only [w32_of, w64_of, w8_of, decide_eq_true_eq, decide_eq_false_iff_not, Bool.not_eq_true] at c13
          exact wp_some (by (try dsimp only) <;> first | assumption | omega | ((try simp (disch := omega) only [w32_of, w64_of, w8_of]) <;> first | assumption | omega | (split <;> omega) | (refine And.intro ?_ ?_ <;> split <;> omega)) | omega)
      rintro best_51 _ g22
      exact wp_some (x_inl ⟨⟨(by (try dsimp only) <;> first | assumption | omega | ((try simp (disch := omega) only [w32_of, w64_of, w8_of]) <;> first | assumption | omega | (split <;> omega) | (refine And.intro ?_ ?_ <;> split <;> omega)) | omega), (by (try dsimp only) <;> first | assumption | omega | ((try simp (disch := omega) only [w32_of, w64_of, w8_of]) <;> first | assumption | omega | (split <;> omega) | (refine And.intro ?_ ?_ <;> split <;> omega)) | omega)⟩, (by (try dsimp only) <;> first | assumption | omega | ((try simp (disch := omega) only [w32_of, w64_of, w8_of]) <;> first | assumption | omega | (split <;> omega) | (refine And.intro ?_ ?_ <;> split <;> omega)) | omega)⟩)
    · try simp (disch := omega) only [w32_of, w64_of, w8_of, decide_eq_true_eq, decide_eq_false_iff_not, Bool.not_eq_true] at c9
      exact wp_some (x_inr (by (try dsimp only) <;> first | assumption | omega | ((try simp (disch := omega) only [w32_of, w64_of, w8_of]) <;> first | assumption | omega | (split <;> omega) | (refine And.intro ?_ ?_ <;> split <;> omega)) | omega))
  rintro ⟨best_55, k_56⟩ _ y24
  try dsimp only at y24 ⊢
  have g23 := y24
  exact wp_some (by (try dsimp only) <;> first | assumption | omega | ((try simp (disch := omega) only [w32_of, w64_of, w8_of]) <;> first | assumption | omega | (split <;> omega) | (refine And.intro ?_ ?_ <;> split <;> omega)) | omega)
theorem s_G_twiceAround {σ : SG} {from_0 : Int} {to_0 : Int} (hσ : II σ) (w0 : 0 ≤ from_0 ∧ from_0 ≤ to_0 ∧ to_0 ≤ 2048) : wp_ (fG_twiceAround σ from_0 to_0) (fun zz_ => True) := by
  unfold fG_twiceAround
  refine wp_bd (P := fun rr_ => (True)) ?_ ?_
  · refine wp_whl (fun ss_ => (from_0 ≤ ss_.2 ∧ ss_.2 ≤ to_0)) (fun ss_ => (to_0 - ss_.2).toNat) (by (try dsimp only) <;> first | assumption | omega | ((try simp (disch := omega) only [w32_of, w64_of, w8_of]) <;> first | assumption | omega | (split <;> omega) | (refine And.intro ?_ ?_ <;> split <;> omega)) | omega) ?_
    rintro ⟨total_1, k_2⟩ y2
    try dsimp only at y2 ⊢
    have g1 := y2
    have c4 := w32_rng k_2
    have c5 := w32_rng to_0
    refine wp_if (fun c3 => ?_) (fun c3 => ?_)
    · try simp (disch := omega) only [w32_of, w64_of, w8_of, decide_eq_true_eq, decide_eq_false_iff_not, Bool.not_eq_true] at c3
      refine wp_bd (P := fun rr_ => (0 ≤ rr_ ∧ rr_ ≤ 8191)) ?_ ?_
      · have c7 := w32_rng (k_2 + 1)
        refine wp_if (fun c6 => ?_) (fun c6 => ?_)
        · try simp (disch := omega) only [w32_of, w64_of, w8_of, decide_eq_true_eq, decide_eq_false_iff_not, Bool.not_eq_true] at c6
          refine wp_rdI (by (try dsimp only) <;> first | assumption | omega | ((try simp (disch := omega) only [w32_of, w64_of, w8_of]) <;> first | assumption | omega | (split <;> omega) | (refine And.intro ?_ ?_ <;> split <;> omega)) | omega) (by (try dsimp only) <;> first | assumption | omega | ((try simp (disch := omega) only [w32_of, w64_of, w8_of]) <;> first | assumption | omega | (split <;> omega) | (refine And.intro ?_ ?_ <;> split <;> omega)) | omega) (fun x_16 e_x_16 => ?_)
          have b_x_16 : 0 ≤ x_16 ∧ x_16 ≤ 8191 := by rw [e_x_16]; exact ii_kG_corner hσ _
          try simp (disch := omega) only [w32_of, w64_of, w8_of] at e_x_16
          have c8 := ii_kG_corner hσ (k_2 + 1)
          exact wp_some (by (try dsimp only) <;> first | assumption | omega | ((try simp (disch := omega) only [w32_of, w64_of, w8_of]) <;> first | assumption | omega | (split <;> omega) | (refine And.intro ?_ ?_ <;> split <;> omega)) | omega)
        · try simp (disch := omega) only [w32_of, w64_of, w8_of, decide_eq_true_eq, decide_eq_false_iff_not, Bool.not_eq_true] at c6
          have c9 := w32_rng from_0
          refine wp_rdI (by (try dsimp only) <;> first | assumption | omega | ((try simp (disch := omega) only [w32_of, w64_of, w8_of]) <;> first | assumption | omega | (split <;> omega) | (refine And.intro ?_ ?_ <;> split <;> omega)) | omega) (by (try dsimp only) <;> first | assumption | omega | ((try simp (disch := omega) only [w32_of, w64_of, w8_of]) <;> first | assumption | omega | (split <;> omega) | (refine And.intro ?_ ?_ <;> split <;> omega)) | omega) (fun x_19 e_x_19 => ?_)
          have b_x_19 : 0 ≤ x_19 ∧ x_19 ≤ 8191 := by rw [e_x_19]; exact ii_kG_corner hσ _
          try simp (disch := omega) only [w32_of, w64_of, w8_of] at e_x_19
          have c10 := ii_kG_corner hσ from_0
          exact wp_some (by (try dsimp only) <;> first | assumption | omega | ((try simp (disch := omega) only [w32_of, w64_of, w8_of]) <;> first | assumption | omega | (split <;> omega) | (refine And.intro ?_ ?_ <;> split <;> omega)) | omega)
      rintro x_22 _ g11
      refine wp_rdI (by (try dsimp only) <;> first | assumption | omega | ((try simp (disch := omega) only [w32_of, w64_of, w8_of]) <;> first | assumption | omega | (split <;> omega) | (refine And.intro ?_ ?_ <;> split <;> omega)) | omega) (by (try dsimp only) <;> first | assumption | omega | ((try simp (disch := omega) only [w32_of, w64_of, w8_of]) <;> first | assumption | omega | (split <;> omega) | (refine And.intro ?_ ?_ <;> split <;> omega)) | omega) (fun x_23 e_x_23 => ?_)
      have b_x_23 : 0 ≤ x_23 ∧ x_23 ≤ 8191 := by rw [e_x_23]; exact ii_kG_corner hσ _
      try simp (disch := omega) only [w32_of, w64_of, w8_of] at e_x_23
      have c12 := ii_kG_corner hσ k_2
      have c13 := w32_rng x_23
      refine wp_rdI (by (try dsimp only) <;> first | assumption | omega | ((try simp (disch := omega) only [w32_of, w64_of, w8_of]) <;> first | assumption | omega | (split <;> omega) | (refine And.intro ?_ ?_ <;> split <;> omega)) | omega) (by (try dsimp only) <;> first | assumption | omega | ((try simp (disch := omega) only [w32_of, w64_of, w8_of]) <;> first | assumption | omega | (split <;> omega) | (refine And.intro ?_ ?_ <;> split <;> omega)) | omega) (fun x_25 e_x_25 => ?_)
      have b_x_25 : (-1000000000) ≤ x_25 ∧ x_25 ≤ 1000000000 := by rw [e_x_25]; exact ii_kN_hotX hσ _
      try simp (disch := omega) only [w32_of, w64_of, w8_of] at e_x_25
      have c14 := ii_kN_hotX hσ x_23
      have c15 := w32_rng x_22
      refine wp_rdI (by (try dsimp only) <;> first | assumption | omega | ((try simp (disch := omega) only [w32_of, w64_of, w8_of]) <;> first | assumption | omega | (split <;> omega) | (refine And.intro ?_ ?_ <;> split <;> omega)) | omega) (by (try dsimp only) <;> first | assumption | omega | ((try simp (disch := omega) only [w32_of, w64_of, w8_of]) <;> first | assumption | omega | (split <;> omega) | (refine And.intro ?_ ?_ <;> split <;> omega)) | omega) (fun x_27 e_x_27 => ?_)
      have b_x_27 : (-1000000000) ≤ x_27 ∧ x_27 ≤ 1000000000 := by rw [e_x_27]; exact ii_kN_hotY hσ _
      try simp (disch := omega) only [w32_of, w64_of, w8_of] at e_x_27
      have c16 := ii_kN_hotY hσ x_22
      refine wp_rdI (by (try dsimp only) <;> first | assumption | omega | ((try simp (disch := omega) only [w32_of, w64_of, w8_of]) <;> first | assumption | omega | (split <;> omega) | (refine And.intro ?_ ?_ <;> split <;> omega)) | omega) (by (try dsimp only) <;> first | assumption | omega | ((try simp (disch := omega) only [w32_of, w64_of, w8_of]) <;> first | assumption | omega | (split <;> omega) | (refine And.intro ?_ ?_ <;> split <;> omega)) | omega) (fun x_29 e_x_29 => ?_)
      have b_x_29 : (-1000000000) ≤ x_29 ∧ x_29 ≤ 1000000000 := by rw [e_x_29]; exact ii_kN_hotX hσ _
      try simp (disch := omega) only [w32_of, w64_of, w8_of] at e_x_29
      have c17 := ii_kN_hotX hσ x_22
      refine wp_rdI (by (try dsimp only) <;> first | assumption | omega | ((try simp (disch := omega) only [w32_of, w64_of, w8_of]) <;> first | assumption | omega | (split <;> omega) | (refine And.intro ?_ ?_ <;> split <;> omega)) | omega) (by (try dsimp only) <;> first | assumption | omega | ((try simp (disch := omega) only [w32_of, w64_of, w8_of]) <;> first | assumption | omega | (split <;> omega) | (refine And.intro ?_ ?_ <;> split <;> omega)) | omega) (fun x_31 e_x_31 => ?_)
      have b_x_31 : 0 ≤ x_31 ∧ x_31 ≤ 8191 := by rw [e_x_31]; exact ii_kG_corner hσ _
      try simp (disch := omega) only [w32_of, w64_of, w8_of] at e_x_31
      have c18 := w32_rng x_31
      refine wp_rdI (by (try dsimp only) <;> first | assumption | omega | ((try simp (disch := omega) only [w32_of, w64_of, w8_of]) <;> first | assumption | omega | (split <;> omega) | (refine And.intro ?_ ?_ <;> split <;> omega)) | omega) (by (try dsimp only) <;> first | assumption | omega | ((try simp (disch := omega) only [w32_of, w64_of, w8_of]) <;> first | assumption | omega | (split <;> omega) | (refine And.intro ?_ ?_ <;> split <;> omega)) | omega) (fun x_33 e_x_33 => ?_)
      have b_x_33 : (-1000000000) ≤ x_33 ∧ x_33 ≤ 1000000000 := by rw [e_x_33]; exact ii_kN_hotY hσ _
      try simp (disch := omega) only [w32_of, w64_of, w8_of] at e_x_33
      have c19 := ii_kN_hotY hσ x_31
      have c20 := w32_rng x_25
      have c21 := w32_rng x_27
      have c22 := w32_rng x_29
      have c23 := w32_rng x_33
      refine wp_lt (fun x_35 e_x_35 => ?_)
      try simp (disch := omega) only [w32_of, w64_of, w8_of] at e_x_35
      exact wp_some (x_inl ⟨(by (try dsimp only) <;> first | assumption | omega | ((try simp (disch := omega) only [w32_of, w64_of, w8_of]) <;> first | assumption | omega | (split <;> omega) | (refine And.intro ?_ ?_ <;> split <;> omega)) | omega), (by (try dsimp only) <;> first | assumption | omega | ((try simp (disch := omega) only [w32_of, w64_of, w8_of]) <;> first | assumption | omega | (split <;> omega) | (refine And.intro ?_ ?_ <;> split <;> omega)) | omega)⟩)
    · try simp (disch := omega) only [w32_of, w64_of, w8_of, decide_eq_true_eq, decide_eq_false_iff_not, Bool.not_eq_true] at c3
      exact wp_some (x_inr (by (try dsimp only) <;> first | assumption | omega | ((try simp (disch := omega) only [w32_of, w64_of, w8_of]) <;> first | assumption | omega | (split <;> omega) | (refine And.intro ?_ ?_ <;> split <;> omega)) | omega))
  rintro ⟨total_42, k_43⟩ _ y25
  try dsimp only at y25 ⊢
  have g24 := y25
  exact wp_some trivial
theorem s_G_takeRing {σ : SG} {from_0 : Int} {to_0 : Int} (hσ : II σ) (w0 : RGs σ) (w1 : 0 ≤ from_0 ∧ from_0 ≤ 8192) (w2 : 0 ≤ to_0 ∧ to_0 ≤ 8193) : wp_ (fG_takeRing σ from_0 to_0) (fun zz_ => II zz_.2 ∧ FC [kG_corner, kG_corners, kG_ringArea, kG_ringBegin, kG_rings] [] σ zz_.2 ∧ ((zz_.1 = true) → (RGs zz_.2))) := by sorry
theorem s_G_trace {σ : SG} {first_0 : Int} (hσ : II σ) (w0 : RGs σ) (w1 : 0 ≤ first_0 ∧ first_0 ≤ 16383) : wp_ (fG_trace σ first_0) (fun zz_ => II zz_.2 ∧ FC [kG_corner, kG_corners, kG_isBoundary, kG_onPath, kG_path, kG_ringArea, kG_ringBegin, kG_rings] [] σ zz_.2 ∧ ((zz_.1 = true) → (RGs zz_.2))) := by sorry
theorem s_G_traceRings {σ : SG} (hσ : II σ) : wp_ (fG_traceRings σ) (fun zz_ => II zz_.2 ∧ FC [kG_corner, kG_corners, kG_isBoundary, kG_onPath, kG_path, kG_ringArea, kG_ringBegin, kG_rings] [] σ zz_.2 ∧ ((zz_.1 = true) → (RGs zz_.2))) := by
  unfold fG_traceRings
  have hH := ii_kN_hot hσ 0
  refine wp_wfI hσ b_kG_rings (by (try dsimp only) <;> first | assumption | omega | ((try simp (disch := omega) only [w32_of, w64_of, w8_of]) <;> first | assumption | omega | (split <;> omega) | (refine And.intro ?_ ?_ <;> split <;> omega)) | omega) (fun σ_1 hσ_1 eσ_1 => ?_)
  try simp (disch := omega) only [w32_of, w64_of, w8_of] at eσ_1
  have flσ_1 := FC_sg eσ_1 (by first | decide | (rcases hE with rfl | rfl | rfl <;> decide))
  have frσ_1 : FC [kG_corner, kG_corners, kG_isBoundary, kG_onPath, kG_path, kG_ringArea, kG_ringBegin, kG_rings] [] σ σ_1 := FC_le flσ_1 (by first | decide | (rcases hE with rfl | rfl | rfl <;> decide)) (by simp)
  refine wp_wfI hσ_1 b_kG_corners (by (try dsimp only) <;> first | assumption | omega | ((try simp (disch := omega) only [w32_of, w64_of, w8_of]) <;> first | assumption | omega | (split <;> omega) | (refine And.intro ?_ ?_ <;> split <;> omega)) | omega) (fun σ_2 hσ_2 eσ_2 => ?_)
  try simp (disch := omega) only [w32_of, w64_of, w8_of] at eσ_2
  have flσ_2 := FC_sg eσ_2 (by first | decide | (rcases hE with rfl | rfl | rfl <;> decide))
  have frσ_2 : FC [kG_corner, kG_corners, kG_isBoundary, kG_onPath, kG_path, kG_ringArea, kG_ringBegin, kG_rings] [] σ σ_2 := FC_tr frσ_1 flσ_2 (by first | decide | (rcases hE with rfl | rfl | rfl <;> decide)) (by first | decide | (rcases hE with rfl | rfl | rfl <;> decide)) (by simp) (by simp)
  have c1 := ii_kN_hot hσ_2 0
  have c2 := FC_at flσ_2 (c := kN_hot) (by first | decide | (rcases hE with rfl | rfl | rfl <;> decide)) 0
  have c3 := ii_kN_hot hσ_1 0
  have c4 := FC_at flσ_1 (c := kN_hot) (by first | decide | (rcases hE with rfl | rfl | rfl <;> decide)) 0
  have c5 := ii_kN_hot hσ 0
  refine wp_bd (v_fillIR (σ := σ_2) (a_0 := 216) (a_n := 8192) (fromIndex_0 := 0) (toIndex_0 := (σ_2 kN_hot 0)) (val_0 := 0) hσ_2 (by decide) (by rw [show (216 * 256 : Nat) = kG_onPath from rfl, b_kG_onPath]; exact ⟨by decide, by decide⟩) (by decide) (by (try dsimp only) <;> first | assumption | omega | ((try simp (disch := omega) only [w32_of, w64_of, w8_of]) <;> first | assumption | omega | (split <;> omega) | (refine And.intro ?_ ?_ <;> split <;> omega)) | omega)) ?_
  rintro σ_4 - ⟨hσ_4, flσ_4, g6⟩
  have frσ_4 : FC [kG_corner, kG_corners, kG_isBoundary, kG_onPath, kG_path, kG_ringArea, kG_ringBegin, kG_rings] [] σ σ_4 := FC_tr frσ_2 flσ_4 (by first | decide | (rcases hE with rfl | rfl | rfl <;> decide)) (by first | decide | (rcases hE with rfl | rfl | rfl <;> decide)) (by simp) (by simp)
  try simp (disch := omega) only [w32_of, w64_of, w8_of] at g6
  refine wp_bx (P := fun rr_ => II rr_.2 ∧ FC [kG_corner, kG_corners, kG_isBoundary, kG_onPath, kG_path, kG_ringArea, kG_ringBegin, kG_rings] [] σ rr_.2 ∧ (RGs rr_.2)) ?_ ?_
  · refine wp_whl (fun ss_ => II ss_.2 ∧ FC [kG_corner, kG_corners, kG_isBoundary, kG_onPath, kG_path, kG_ringArea, kG_ringBegin, kG_rings] [] σ ss_.2 ∧ (0 ≤ ss_.1 ∧ ss_.1 ≤ 16384) ∧ (RGs ss_.2)) (fun ss_ => (16385 - ss_.1).toNat) ⟨hσ_4, frσ_4, (by (try dsimp only) <;> first | assumption | omega | ((try simp (disch := omega) only [w32_of, w64_of, w8_of]) <;> first | assumption | omega | (split <;> omega) | (refine And.intro ?_ ?_ <;> split <;> omega)) | omega), (by (try dsimp only) <;> (first | exact RGs_0 (by rw [FC_at flσ_4 (c := kG_rings) (by decide), eσ_2, sg_nc (by decide), eσ_1, sg_at]) | exact htr (by assumption) | exact hr6))⟩ ?_
    rintro ⟨piece_5, σ_6⟩ y8
    try dsimp only at y8 ⊢
    obtain ⟨hσ_6, frσ_6, g7, hr6⟩ := y8
    have c10 := w32_rng piece_5
    have c11 := ii_kN_pieces hσ_6 0
    have c12 := FC_at frσ_6 (c := kN_pieces) (by first | decide | (rcases hE with rfl | rfl | rfl <;> decide)) 0
    have c13 := ii_kN_pieces hσ 0
    have c14 := w32_rng (σ_6 kN_pieces 0)
    refine wp_if (fun c9 => ?_) (fun c9 => ?_)
    · try simp (disch := omega) only [w32_of, w64_of, w8_of, decide_eq_true_eq, decide_eq_false_iff_not, Bool.not_eq_true] at c9
      refine wp_rdI (by (try dsimp only) <;> first | assumption | omega | ((try simp (disch := omega) only [w32_of, w64_of, w8_of]) <;> first | assumption | omega | (split <;> omega) | (refine And.intro ?_ ?_ <;> split <;> omega)) | omega) (by (try dsimp only) <;> first | assumption | omega | ((try simp (disch := omega) only [w32_of, w64_of, w8_of]) <;> first | assumption | omega | (split <;> omega) | (refine And.intro ?_ ?_ <;> split <;> omega)) | omega) (fun x_26 e_x_26 => ?_)
      have b_x_26 : 0 ≤ x_26 ∧ x_26 ≤ 1 := by rw [e_x_26]; exact ii_kG_isBoundary hσ_6 _
      try simp (disch := omega) only [w32_of, w64_of, w8_of] at e_x_26
      have c15 := ii_kG_isBoundary hσ_6 piece_5
      refine wp_if (fun c16 => ?_) (fun c16 => ?_)
      · try simp (disch := omega) only [w32_of, w64_of, w8_of, decide_eq_true_eq, decide_eq_false_iff_not, Bool.not_eq_true] at c16
        refine wp_bd (s_G_trace (σ := σ_6) (first_0 := piece_5) hσ_6 hr6 (by (try dsimp only) <;> first | assumption | omega | ((try simp (disch := omega) only [w32_of, w64_of, w8_of]) <;> first | assumption | omega | (split <;> omega) | (refine And.intro ?_ ?_ <;> split <;> omega)) | omega)) ?_
        rintro ⟨x_31, σ_30⟩ - y17
        try dsimp only at y17 ⊢
        obtain ⟨hσ_30, flσ_30, htr⟩ := y17
        have frσ_30 : FC [kG_corner, kG_corners, kG_isBoundary, kG_onPath, kG_path, kG_ringArea, kG_ringBegin, kG_rings] [] σ σ_30 := FC_tr frσ_6 flσ_30 (by first | decide | (rcases hE with rfl | rfl | rfl <;> decide)) (by first | decide | (rcases hE with rfl | rfl | rfl <;> decide)) (by simp) (by simp)
        try simp (disch := omega) only [w32_of, w64_of, w8_of] at htr
        refine wp_if (fun c18 => ?_) (fun c18 => ?_)
        · have k19 := htr c18
          try simp (disch := omega) only [w32_of, w64_of, w8_of] at k19
          try simp (disch := omega) only [w32_of, w64_of, w8_of, decide_eq_true_eq, decide_eq_false_iff_not, Bool.not_eq_true] at c18
          exact wp_some (x_inl ⟨⟨hσ_30, frσ_30, (by (try dsimp only) <;> first | assumption | omega | ((try simp (disch := omega) only [w32_of, w64_of, w8_of]) <;> first | assumption | omega | (split <;> omega) | (refine And.intro ?_ ?_ <;> split <;> omega)) | omega), (by (try dsimp only) <;> (first | exact RGs_0 (by rw [FC_at flσ_4 (c := kG_rings) (by decide), eσ_2, sg_nc (by decide), eσ_1, sg_at]) | exact htr (by assumption) | exact hr6))⟩, (by (try dsimp only) <;> first | assumption | omega | ((try simp (disch := omega) only [w32_of, w64_of, w8_of]) <;> first | assumption | omega | (split <;> omega) | (refine And.intro ?_ ?_ <;> split <;> omega)) | omega)⟩)
        · try simp (disch := omega) only [w32_of, w64_of, w8_of, decide_eq_true_eq, decide_eq_false_iff_not, Bool.not_eq_true] at c18
          exact wp_some (x_inr (x_inr ⟨hσ_30, frσ_30, (fun q => (by cases q))⟩))
      · try simp (disch := omega) only [w32_of, w64_of, w8_of, decide_eq_true_eq, decide_eq_false_iff_not, Bool.not_eq_true] at c16
        exact wp_some (x_inl ⟨⟨hσ_6, frσ_6, (by (try dsimp only) <;> first | assumption | omega | ((try simp (disch := omega) only [w32_of, w64_of, w8_of]) <;> first | assumption | omega | (split <;> omega) | (refine And.intro ?_ ?_ <;> split <;> omega)) | omega), (by (try dsimp only) <;> (first | exact RGs_0 (by rw [FC_at flσ_4 (c := kG_rings) (by decide), eσ_2, sg_nc (by decide), eσ_1, sg_at]) | exact htr (by assumption) | exact hr6))⟩, (by (try dsimp only) <;> first | assumption | omega | ((try simp (disch := omega) only [w32_of, w64_of, w8_of]) <;> first | assumption | omega | (split <;> omega) | (refine And.intro ?_ ?_ <;> split <;> omega)) | omega)⟩)
    · try simp (disch := omega) only [w32_of, w64_of, w8_of, decide_eq_true_eq, decide_eq_false_iff_not, Bool.not_eq_true] at c9
      exact wp_some (x_inr (x_inl ⟨hσ_6, frσ_6, (by (try dsimp only) <;> (exact hr6))⟩))
  rintro ⟨piece_36, σ_37⟩ y21
  try dsimp only at y21 ⊢
  obtain ⟨hσ_37, frσ_37, hr37⟩ := y21
  exact wp_some ⟨hσ_37, frσ_37, (by (try dsimp only) <;> (first | (intro q9; exact absurd q9 (by decide)) | (intro _; exact hr37)))⟩
theorem s_G_sortRings {σ : SG} (hσ : II σ) (w0 : RGs σ) : wp_ (fG_sortRings σ) (fun zz_ => II zz_ ∧ FC [kG_order] [] σ zz_ ∧ (ORr zz_ (σ kG_rings 0) (σ kG_rings 0))) := by sorry
theorem s_G_ringInOrder {σ : SG} {i_0 : Int} {n_9 m_9 : Int} (hσ : II σ) (w0 : ORr σ n_9 m_9) (w1 : 0 ≤ i_0 ∧ i_0 < n_9 ∧ n_9 ≤ 512 ∧ m_9 ≤ 512) : wp_ (fG_ringInOrder σ i_0) (fun zz_ => (0 ≤ zz_ ∧ zz_ < m_9)) := by
  unfold fG_ringInOrder
  have ho := w0 i_0 (by omega) (by omega)
  have c1 := w32_rng i_0
  refine wp_rdI (by (try dsimp only) <;> first | assumption | omega | ((try simp (disch := omega) only [w32_of, w64_of, w8_of]) <;> first | assumption | omega | (split <;> omega) | (refine And.intro ?_ ?_ <;> split <;> omega)) | omega) (by (try dsimp only) <;> first | assumption | omega | ((try simp (disch := omega) only [w32_of, w64_of, w8_of]) <;> first | assumption | omega | (split <;> omega) | (refine And.intro ?_ ?_ <;> split <;> omega)) | omega) (fun x_1 e_x_1 => ?_)
  try simp (disch := omega) only [w32_of, w64_of, w8_of] at e_x_1
  rw [← e_x_1] at ho
  exact wp_some (by (try dsimp only) <;> first | assumption | omega | ((try simp (disch := omega) only [w32_of, w64_of, w8_of]) <;> first | assumption | omega | (split <;> omega) | (refine And.intro ?_ ?_ <;> split <;> omega)) | omega)
theorem s_G_tellRing {σ : SG} {into_0 : Nat} {ring_0 : Int} (hσ : II σ) (hs_into_0 : isS into_0) (w0 : RGs σ) (w1 : 0 ≤ ring_0 ∧ ring_0 < σ kG_rings 0) : wp_ (fG_tellRing σ into_0 ring_0) (fun zz_ => II zz_.2 ∧ FC [] [into_0] σ zz_.2 ∧ ((zz_.1 = true) → (∃ L, 1 ≤ L ∧ zz_.2 (kA_plans into_0) 0 = σ (kA_plans into_0) 0 + 1 ∧ zz_.2 (kA_points into_0) 0 = σ (kA_points into_0) 0 + L ∧ zz_.2 (kA_plan into_0) (σ (kA_plans into_0) 0) = L ∧ ∀ i, i ≠ σ (kA_plans into_0) 0 → zz_.2 (kA_plan into_0) i = σ (kA_plan into_0) i))) := by sorry
theorem s_G_tellPolygons {σ : SG} {into_0 : Nat} (hσ : II σ) (hs_into_0 : isS into_0) (w0 : RGs σ) (w1 : ORr σ (σ kG_rings 0) (σ kG_rings 0)) : wp_ (fG_tellPolygons σ into_0) (fun zz_ => II zz_.2 ∧ FC [] [into_0] σ zz_.2 ∧ ((zz_.1 = true) → (SHa zz_.2 into_0))) := by
  unfold fG_tellPolygons
  have c1 := ii_kG_rings hσ 0
  have hrg := ii_kG_rings hσ 0
  refine wp_bd (v_clearA (σ := σ) (this_0 := into_0) hσ (by first | assumption | decide | omega)) ?_
  rintro σ_2 - ⟨hσ_2, flσ_2, hc1, hc2⟩
  have frσ_2 : FC [] [into_0] σ σ_2 := FC_le flσ_2 (by first | decide | (rcases hE with rfl | rfl | rfl <;> decide)) (by simp)
  have c2 := iiA_plans (s := into_0) hσ_2 (by first | assumption | decide | omega) 0
  try simp (disch := omega) only [w32_of, w64_of, w8_of] at hc1
  have c3 := iiA_points (s := into_0) hσ_2 (by first | assumption | decide | omega) 0
  try simp (disch := omega) only [w32_of, w64_of, w8_of] at hc2
  refine wp_bd (v_addShape (σ := σ_2) (this_0 := into_0) (kind_0 := 6) (parts_0 := 0) hσ_2 (by first | assumption | decide | omega)) ?_
  rintro ⟨x_5, σ_4⟩ - y4
  try dsimp only at y4 ⊢
  obtain ⟨hσ_4, flσ_4, ha1, ha2, ha3, ha4, ha5, ha6⟩ := y4
  have frσ_4 : FC [] [into_0] σ σ_4 := FC_tr frσ_2 flσ_4 (by first | decide | (rcases hE with rfl | rfl | rfl <;> decide)) (by first | decide | (rcases hE with rfl | rfl | rfl <;> decide)) (by simp) (by simp)
  try simp (disch := omega) only [w32_of, w64_of, w8_of] at ha1
  try simp (disch := omega) only [w32_of, w64_of, w8_of] at ha2
  have c5 := iiA_plans (s := into_0) hσ_4 (by first | assumption | decide | omega) 0
  try simp (disch := omega) only [w32_of, w64_of, w8_of] at ha3
  try simp (disch := omega) only [w32_of, w64_of, w8_of] at ha4
  try simp (disch := omega) only [w32_of, w64_of, w8_of] at ha5
  try simp (disch := omega) only [w32_of, w64_of, w8_of] at ha6
  refine wp_bd (P := fun rr_ => II rr_.2.2 ∧ FC [] [into_0] σ rr_.2.2 ∧ ((rr_.1 = true) → (SHa rr_.2.2 into_0))) ?_ ?_
  · refine wp_whl (fun ss_ => II ss_.2.2 ∧ FC [] [into_0] σ ss_.2.2 ∧ (0 ≤ ss_.2.1 ∧ ss_.2.1 ≤ 512) ∧ ((ss_.1 = true) → (TPs ss_.2.2 into_0 ss_.2.1))) (fun ss_ => (513 - ss_.2.1).toNat) ⟨hσ_4, frσ_4, (by (try dsimp only) <;> first | assumption | omega | ((try simp (disch := omega) only [w32_of, w64_of, w8_of]) <;> first | assumption | omega | (split <;> omega) | (refine And.intro ?_ ?_ <;> split <;> omega)) | omega), (by (try dsimp only) <;> (intro q9; first | exact TP_0 hc1 hc2 (ha3 q9) ha4 | exact PP_end hσ_80 hs_into_0 (h80 q9) | exact TP_le (h8 q9) (by omega)))⟩ ?_
    rintro ⟨fits_6, i_7, σ_8⟩ y7
    try dsimp only at y7 ⊢
    obtain ⟨hσ_8, frσ_8, g6, h8⟩ := y7
    have c9 := w32_rng i_7
    have c10 := ii_kG_rings hσ_8 0
    have c11 := FC_at frσ_8 (c := kG_rings) (by first | decide | (rcases hE with rfl | rfl | rfl <;> decide)) 0
    have c12 := w32_rng (σ_8 kG_rings 0)
    refine wp_if (fun c8 => ?_) (fun c8 => ?_)
    · try simp (disch := omega) only [w32_of, w64_of, w8_of, decide_eq_true_eq, decide_eq_false_iff_not, Bool.not_eq_true] at c8
      refine wp_bd (s_G_ringInOrder (σ := σ_8) (i_0 := i_7) hσ_8 (by first | exact ORr_f frσ_8 (by decide) w1 | exact ORr_f frσ_40 (by decide) w1) (by (try dsimp only) <;> first | assumption | omega | ((try simp (disch := omega) only [w32_of, w64_of, w8_of]) <;> first | assumption | omega | (split <;> omega) | (refine And.intro ?_ ?_ <;> split <;> omega)) | omega)) ?_
      rintro x_17 - ho17
      try simp (disch := omega) only [w32_of, w64_of, w8_of] at ho17
      refine wp_bd (s_G_isShell (σ := σ_8) (ring_0 := x_17) hσ_8 (by (try dsimp only) <;> first | assumption | omega | ((try simp (disch := omega) only [w32_of, w64_of, w8_of]) <;> first | assumption | omega | (split <;> omega) | (refine And.intro ?_ ?_ <;> split <;> omega)) | omega)) ?_
      rintro x_19 - -
      refine wp_if (fun c14 => ?_) (fun c14 => ?_)
      · try simp (disch := omega) only [w32_of, w64_of, w8_of, decide_eq_true_eq, decide_eq_false_iff_not, Bool.not_eq_true] at c14
        refine wp_rdI (by (try dsimp only) <;> first | assumption | omega | ((try simp (disch := omega) only [w32_of, w64_of, w8_of]) <;> first | assumption | omega | (split <;> omega) | (refine And.intro ?_ ?_ <;> split <;> omega)) | omega) (by (try dsimp only) <;> first | assumption | omega | ((try simp (disch := omega) only [w32_of, w64_of, w8_of]) <;> first | assumption | omega | (split <;> omega) | (refine And.intro ?_ ?_ <;> split <;> omega)) | omega) (fun x_21 e_x_21 => ?_)
        try simp (disch := omega) only [w32_of, w64_of, w8_of] at e_x_21
        refine wp_waN hσ_8 (bA_plan (s := into_0) (by first | assumption | decide | omega)) (by (try dsimp only) <;> first | assumption | omega | ((try simp (disch := omega) only [w32_of, w64_of, w8_of]) <;> first | assumption | omega | (split <;> omega) | (refine And.intro ?_ ?_ <;> split <;> omega)) | omega) (by (try dsimp only) <;> first | assumption | omega | ((try simp (disch := omega) only [w32_of, w64_of, w8_of]) <;> first | assumption | omega | (split <;> omega) | (refine And.intro ?_ ?_ <;> split <;> omega)) | omega) (fun σ_23 hσ_23 eσ_23 => ?_)
        try simp (disch := omega) only [w32_of, w64_of, w8_of] at eσ_23
        have flσ_23 := FS_plan eσ_23 (by first | assumption | decide | omega)
        have frσ_23 : FC [] [into_0] σ σ_23 := FC_tr frσ_8 flσ_23 (by first | decide | (rcases hE with rfl | rfl | rfl <;> decide)) (by first | decide | (rcases hE with rfl | rfl | rfl <;> decide)) (by simp) (by simp)
        have h23 := TP_inc (h8 (by first | assumption | simp_all)) (by omega) e_x_21 eσ_23
        refine wp_bd (P := fun rr_ => II rr_.2 ∧ FC [] [into_0] σ rr_.2 ∧ ((rr_.1 = true) → (PPs rr_.2 into_0 (σ_23 (kA_plans into_0) 0) (i_7 + 1)))) ?_ ?_
        · refine wp_bd (v_addShape (σ := σ_23) (this_0 := into_0) (kind_0 := 3) (parts_0 := 1) hσ_23 (by first | assumption | decide | omega)) ?_
          rintro ⟨x_27, σ_26⟩ - y15
          try dsimp only at y15 ⊢
          obtain ⟨hσ_26, flσ_26, hb1, hb2, hb3, hb4, hb5, hb6⟩ := y15
          have frσ_26 : FC [] [into_0] σ σ_26 := FC_tr frσ_23 flσ_26 (by first | decide | (rcases hE with rfl | rfl | rfl <;> decide)) (by first | decide | (rcases hE with rfl | rfl | rfl <;> decide)) (by simp) (by simp)
          have c16 := iiA_plans (s := into_0) hσ_23 (by first | assumption | decide | omega) 0
          have c17 := (congrFun (congrFun eσ_23 (kA_plans into_0)) 0).trans (sg_nc (ncA_plans_plan _))
          have c18 := iiA_plans (s := into_0) hσ_8 (by first | assumption | decide | omega) 0
          try simp (disch := omega) only [w32_of, w64_of, w8_of] at hb1
          try simp (disch := omega) only [w32_of, w64_of, w8_of] at hb2
          have c19 := iiA_plans (s := into_0) hσ_26 (by first | assumption | decide | omega) 0
          try simp (disch := omega) only [w32_of, w64_of, w8_of] at hb3
          try simp (disch := omega) only [w32_of, w64_of, w8_of] at hb4
          try simp (disch := omega) only [w32_of, w64_of, w8_of] at hb5
          try simp (disch := omega) only [w32_of, w64_of, w8_of] at hb6
          refine wp_if (fun c20 => ?_) (fun c20 => ?_)
          · have k21 := hb1.mp c20
            try simp (disch := omega) only [w32_of, w64_of, w8_of] at k21
            have k23 := hb3 c20
            try simp (disch := omega) only [w32_of, w64_of, w8_of] at k23
            try simp (disch := omega) only [w32_of, w64_of, w8_of, decide_eq_true_eq, decide_eq_false_iff_not, Bool.not_eq_true] at c20
            have c24 := ii_kG_rings hσ_26 0
            have c25 := FC_at flσ_26 (c := kG_rings) (by first | decide | (rcases hE with rfl | rfl | rfl <;> decide)) 0
            have c26 := ii_kG_rings hσ_23 0
            have c27 := FC_at flσ_23 (c := kG_rings) (by first | decide | (rcases hE with rfl | rfl | rfl <;> decide)) 0
            refine wp_bd (s_G_tellRing (σ := σ_26) (into_0 := into_0) (ring_0 := x_17) hσ_26 (by first | assumption | decide | omega) (RGs_f flσ_26 (by decide) (RGs_f flσ_23 (by decide) (RGs_f frσ_8 (by decide) w0))) (by (try dsimp only) <;> first | assumption | omega | ((try simp (disch := omega) only [w32_of, w64_of, w8_of]) <;> first | assumption | omega | (split <;> omega) | (refine And.intro ?_ ?_ <;> split <;> omega)) | omega)) ?_
            rintro ⟨x_31, σ_30⟩ - y28
            try dsimp only at y28 ⊢
            obtain ⟨hσ_30, flσ_30, ht⟩ := y28
            have frσ_30 : FC [] [into_0] σ σ_30 := FC_tr frσ_26 flσ_30 (by first | decide | (rcases hE with rfl | rfl | rfl <;> decide)) (by first | decide | (rcases hE with rfl | rfl | rfl <;> decide)) (by simp) (by simp)
            have c29 := iiA_plans (s := into_0) hσ_30 (by first | assumption | decide | omega) 0
            have c30 := iiA_points (s := into_0) hσ_30 (by first | assumption | decide | omega) 0
            have c31 := iiA_points (s := into_0) hσ_26 (by first | assumption | decide | omega) 0
            try simp (disch := omega) only [w32_of, w64_of, w8_of] at ht
            refine wp_if (fun c32 => ?_) (fun c32 => ?_)
            · have k33 := ht c32
              try simp (disch := omega) only [w32_of, w64_of, w8_of] at k33
              try simp (disch := omega) only [w32_of, w64_of, w8_of, decide_eq_true_eq, decide_eq_false_iff_not, Bool.not_eq_true] at c32
              exact wp_some ⟨hσ_30, frσ_30, (by (try dsimp only) <;> (intro q9; first | exact absurd q9 (by decide) | exact TP_poly h23 (hb3 (by assumption)) hb4 (ht (by assumption))))⟩
            · try simp (disch := omega) only [w32_of, w64_of, w8_of, decide_eq_true_eq, decide_eq_false_iff_not, Bool.not_eq_true] at c32
              exact wp_some ⟨hσ_30, frσ_30, (fun q => (by cases q))⟩
          · have k35 := fun q => c20 (hb1.mpr q)
            try simp (disch := omega) only [w32_of, w64_of, w8_of] at k35
            have k36 := hb2 (Bool.eq_false_iff.mpr c20)
            try simp (disch := omega) only [w32_of, w64_of, w8_of] at k36
            try simp (disch := omega) only [w32_of, w64_of, w8_of, decide_eq_true_eq, decide_eq_false_iff_not, Bool.not_eq_true] at c20
            exact wp_some ⟨hσ_26, frσ_26, (fun q => (by cases q))⟩
        rintro ⟨x_36, σ_37⟩ _ y38
        try dsimp only at y38 ⊢
        obtain ⟨hσ_37, frσ_37, h37⟩ := y38
        refine wp_bd (P := fun rr_ => II rr_.2.2 ∧ FC [] [into_0] σ rr_.2.2 ∧ ((rr_.1 = true) → (PPs rr_.2.2 into_0 (σ_23 (kA_plans into_0) 0) (i_7 + 1)))) ?_ ?_
        · have c39 := iiA_plans (s := into_0) hσ_23 (by first | assumption | decide | omega) 0
          have c40 := (congrFun (congrFun eσ_23 (kA_plans into_0)) 0).trans (sg_nc (ncA_plans_plan _))
          have c41 := iiA_plans (s := into_0) hσ_8 (by first | assumption | decide | omega) 0
          refine wp_whl (fun ss_ => II ss_.2.2 ∧ FC [] [into_0] σ ss_.2.2 ∧ (0 ≤ ss_.2.1 ∧ ss_.2.1 ≤ 512) ∧ ((ss_.1 = true) → (PPs ss_.2.2 into_0 (σ_23 (kA_plans into_0) 0) (i_7 + 1)))) (fun ss_ => (513 - ss_.2.1).toNat) ⟨hσ_37, frσ_37, (by (try dsimp only) <;> first | assumption | omega | ((try simp (disch := omega) only [w32_of, w64_of, w8_of]) <;> first | assumption | omega | (split <;> omega) | (refine And.intro ?_ ?_ <;> split <;> omega)) | omega), (by (try dsimp only) <;> (intro q9; first | exact h37 q9 | exact h67 q9))⟩ ?_
          rintro ⟨fits_38, k_39, σ_40⟩ y43
          try dsimp only at y43 ⊢
          obtain ⟨hσ_40, frσ_40, g42, h40⟩ := y43
          have c45 := w32_rng k_39
          have c46 := ii_kG_rings hσ_40 0
          have c47 := FC_at frσ_40 (c := kG_rings) (by first | decide | (rcases hE with rfl | rfl | rfl <;> decide)) 0
          have c48 := w32_rng (σ_40 kG_rings 0)
          refine wp_if (fun c44 => ?_) (fun c44 => ?_)
          · try simp (disch := omega) only [w32_of, w64_of, w8_of, decide_eq_true_eq, decide_eq_false_iff_not, Bool.not_eq_true] at c44
            refine wp_bd (s_G_ringInOrder (σ := σ_40) (i_0 := k_39) hσ_40 (by first | exact ORr_f frσ_8 (by decide) w1 | exact ORr_f frσ_40 (by decide) w1) (by (try dsimp only) <;> first | assumption | omega | ((try simp (disch := omega) only [w32_of, w64_of, w8_of]) <;> first | assumption | omega | (split <;> omega) | (refine And.intro ?_ ?_ <;> split <;> omega)) | omega)) ?_
            rintro x_49 - ho49
            try simp (disch := omega) only [w32_of, w64_of, w8_of] at ho49
            have h40b := h40 (by first | assumption | simp_all)
            have hpl := PP_le hσ_40 hs_into_0 h40b
            refine wp_bd (P := fun rr_ => II rr_.2 ∧ FC [] [into_0] σ rr_.2 ∧ ((rr_.1 = true) → (PPs rr_.2 into_0 (σ_23 (kA_plans into_0) 0) (i_7 + 1)))) ?_ ?_
            · have c49 := w32_rng x_49
              refine wp_rdI (by (try dsimp only) <;> first | assumption | omega | ((try simp (disch := omega) only [w32_of, w64_of, w8_of]) <;> first | assumption | omega | (split <;> omega) | (refine And.intro ?_ ?_ <;> split <;> omega)) | omega) (by (try dsimp only) <;> first | assumption | omega | ((try simp (disch := omega) only [w32_of, w64_of, w8_of]) <;> first | assumption | omega | (split <;> omega) | (refine And.intro ?_ ?_ <;> split <;> omega)) | omega) (fun x_54 e_x_54 => ?_)
              have b_x_54 : (-1) ≤ x_54 ∧ x_54 ≤ 511 := by rw [e_x_54]; exact ii_kG_shellOf hσ_40 _
              rw [FC_at frσ_40 (c := kG_shellOf) (by first | decide | (rcases hE with rfl | rfl | rfl <;> decide))] at e_x_54
              try simp (disch := omega) only [w32_of, w64_of, w8_of] at e_x_54
              have c50 := ii_kG_shellOf hσ_40 x_49
              have c51 := FC_at frσ_40 (c := kG_shellOf) (by first | decide | (rcases hE with rfl | rfl | rfl <;> decide)) x_49
              have c52 := ii_kG_shellOf hσ x_49
              have c54 := w32_rng x_54
              have c55 := w32_rng x_17
              refine wp_if (fun c53 => ?_) (fun c53 => ?_)
              · try simp (disch := omega) only [w32_of, w64_of, w8_of, decide_eq_true_eq, decide_eq_false_iff_not, Bool.not_eq_true] at c53
                have c56 := w32_rng ((σ_23 (kA_plans into_0) 0) + 1)
                refine wp_rdI (by (try dsimp only) <;> first | assumption | omega | ((try simp (disch := omega) only [w32_of, w64_of, w8_of]) <;> first | assumption | omega | (split <;> omega) | (refine And.intro ?_ ?_ <;> split <;> omega)) | omega) (by (try dsimp only) <;> first | assumption | omega | ((try simp (disch := omega) only [w32_of, w64_of, w8_of]) <;> first | assumption | omega | (split <;> omega) | (refine And.intro ?_ ?_ <;> split <;> omega)) | omega) (fun x_57 e_x_57 => ?_)
                try simp (disch := omega) only [w32_of, w64_of, w8_of] at e_x_57
                refine wp_waN hσ_40 (bA_plan (s := into_0) (by first | assumption | decide | omega)) (by (try dsimp only) <;> first | assumption | omega | ((try simp (disch := omega) only [w32_of, w64_of, w8_of]) <;> first | assumption | omega | (split <;> omega) | (refine And.intro ?_ ?_ <;> split <;> omega)) | omega) (by (try dsimp only) <;> first | assumption | omega | ((try simp (disch := omega) only [w32_of, w64_of, w8_of]) <;> first | assumption | omega | (split <;> omega) | (refine And.intro ?_ ?_ <;> split <;> omega)) | omega) (fun σ_59 hσ_59 eσ_59 => ?_)
                try simp (disch := omega) only [w32_of, w64_of, w8_of] at eσ_59
                have flσ_59 := FS_plan eσ_59 (by first | assumption | decide | omega)
                have frσ_59 : FC [] [into_0] σ σ_59 := FC_tr frσ_40 flσ_59 (by first | decide | (rcases hE with rfl | rfl | rfl <;> decide)) (by first | decide | (rcases hE with rfl | rfl | rfl <;> decide)) (by simp) (by simp)
                have c57 := ii_kG_rings hσ_59 0
                have c58 := FC_at flσ_59 (c := kG_rings) (by first | decide | (rcases hE with rfl | rfl | rfl <;> decide)) 0
                refine wp_bd (s_G_tellRing (σ := σ_59) (into_0 := into_0) (ring_0 := x_49) hσ_59 (by first | assumption | decide | omega) (RGs_f flσ_59 (by decide) (RGs_f frσ_40 (by decide) w0)) (by (try dsimp only) <;> first | assumption | omega | ((try simp (disch := omega) only [w32_of, w64_of, w8_of]) <;> first | assumption | omega | (split <;> omega) | (refine And.intro ?_ ?_ <;> split <;> omega)) | omega)) ?_
                rintro ⟨x_63, σ_62⟩ - y59
                try dsimp only at y59 ⊢
                obtain ⟨hσ_62, flσ_62, hu⟩ := y59
                have frσ_62 : FC [] [into_0] σ σ_62 := FC_tr frσ_59 flσ_62 (by first | decide | (rcases hE with rfl | rfl | rfl <;> decide)) (by first | decide | (rcases hE with rfl | rfl | rfl <;> decide)) (by simp) (by simp)
                have c60 := iiA_plans (s := into_0) hσ_62 (by first | assumption | decide | omega) 0
                have c61 := iiA_plans (s := into_0) hσ_59 (by first | assumption | decide | omega) 0
                have c62 := (congrFun (congrFun eσ_59 (kA_plans into_0)) 0).trans (sg_nc (ncA_plans_plan _))
                have c63 := iiA_plans (s := into_0) hσ_40 (by first | assumption | decide | omega) 0
                have c64 := iiA_points (s := into_0) hσ_62 (by first | assumption | decide | omega) 0
                have c65 := iiA_points (s := into_0) hσ_59 (by first | assumption | decide | omega) 0
                have c66 := (congrFun (congrFun eσ_59 (kA_points into_0)) 0).trans (sg_nc (ncA_points_plan _))
                have c67 := iiA_points (s := into_0) hσ_40 (by first | assumption | decide | omega) 0
                try simp (disch := omega) only [w32_of, w64_of, w8_of] at hu
                exact wp_some ⟨hσ_62, frσ_62, (by (try dsimp only) <;> (intro q9; first | exact h40b | exact PP_ring h40b e_x_57 eσ_59 (hu q9)))⟩
              · try simp (disch := omega) only [w32_of, w64_of, w8_of, decide_eq_true_eq, decide_eq_false_iff_not, Bool.not_eq_true] at c53
                exact wp_some ⟨hσ_40, frσ_40, (by (try dsimp only) <;> (intro q9; first | exact h40b | exact PP_ring h40b e_x_57 eσ_59 (hu q9)))⟩
            rintro ⟨fits_66, σ_67⟩ _ y68
            try dsimp only at y68 ⊢
            obtain ⟨hσ_67, frσ_67, h67⟩ := y68
            exact wp_some (x_inl ⟨⟨hσ_67, frσ_67, (by (try dsimp only) <;> first | assumption | omega | ((try simp (disch := omega) only [w32_of, w64_of, w8_of]) <;> first | assumption | omega | (split <;> omega) | (refine And.intro ?_ ?_ <;> split <;> omega)) | omega), (by (try dsimp only) <;> (intro q9; first | exact h37 q9 | exact h67 q9))⟩, (by (try dsimp only) <;> first | assumption | omega | ((try simp (disch := omega) only [w32_of, w64_of, w8_of]) <;> first | assumption | omega | (split <;> omega) | (refine And.intro ?_ ?_ <;> split <;> omega)) | omega)⟩)
          · try simp (disch := omega) only [w32_of, w64_of, w8_of, decide_eq_true_eq, decide_eq_false_iff_not, Bool.not_eq_true] at c44
            exact wp_some (x_inr ⟨hσ_40, frσ_40, (by (try dsimp only) <;> (exact h40))⟩)
        rintro ⟨fits_78, k_79, σ_80⟩ _ y69
        try dsimp only at y69 ⊢
        obtain ⟨hσ_80, frσ_80, h80⟩ := y69
        exact wp_some (x_inl ⟨⟨hσ_80, frσ_80, (by (try dsimp only) <;> first | assumption | omega | ((try simp (disch := omega) only [w32_of, w64_of, w8_of]) <;> first | assumption | omega | (split <;> omega) | (refine And.intro ?_ ?_ <;> split <;> omega)) | omega), (by (try dsimp only) <;> (intro q9; first | exact TP_0 hc1 hc2 (ha3 q9) ha4 | exact PP_end hσ_80 hs_into_0 (h80 q9) | exact TP_le (h8 q9) (by omega)))⟩, (by (try dsimp only) <;> first | assumption | omega | ((try simp (disch := omega) only [w32_of, w64_of, w8_of]) <;> first | assumption | omega | (split <;> omega) | (refine And.intro ?_ ?_ <;> split <;> omega)) | omega)⟩)
      · try simp (disch := omega) only [w32_of, w64_of, w8_of, decide_eq_true_eq, decide_eq_false_iff_not, Bool.not_eq_true] at c14
        exact wp_some (x_inl ⟨⟨hσ_8, frσ_8, (by (try dsimp only) <;> first | assumption | omega | ((try simp (disch := omega) only [w32_of, w64_of, w8_of]) <;> first | assumption | omega | (split <;> omega) | (refine And.intro ?_ ?_ <;> split <;> omega)) | omega), (by (try dsimp only) <;> (intro q9; first | exact TP_0 hc1 hc2 (ha3 q9) ha4 | exact PP_end hσ_80 hs_into_0 (h80 q9) | exact TP_le (h8 q9) (by omega)))⟩, (by (try dsimp only) <;> first | assumption | omega | ((try simp (disch := omega) only [w32_of, w64_of, w8_of]) <;> first | assumption | omega | (split <;> omega) | (refine And.intro ?_ ?_ <;> split <;> omega)) | omega)⟩)
    · try simp (disch := omega) only [w32_of, w64_of, w8_of, decide_eq_true_eq, decide_eq_false_iff_not, Bool.not_eq_true] at c8
      exact wp_some (x_inr ⟨hσ_8, frσ_8, (by (try dsimp only) <;> (intro q9; exact TP_end (h8 q9)))⟩)
  rintro ⟨fits_96, i_97, σ_98⟩ _ y70
  try dsimp only at y70 ⊢
  obtain ⟨hσ_98, frσ_98, h98⟩ := y70
  exact wp_some ⟨hσ_98, frσ_98, (by (try dsimp only) <;> (exact h98))⟩
theorem s_G_make {σ : SG} {way_0 : Int} {into_0 : Nat} (hσ : II σ) (hs_into_0 : isS into_0) (w0 : PFs σ (σ kN_hot 0)) (w1 : 0 ≤ way_0 ∧ way_0 ≤ 4) : wp_ (fG_make σ way_0 into_0) (fun zz_ => II zz_.2 ∧ FC [kG_above, kG_active, kG_actives, kG_begin, kG_corner, kG_corners, kG_goesBack, kG_incident, kG_isBoundary, kG_onPath, kG_order, kG_path, kG_ringArea, kG_ringBegin, kG_rings, kG_shellOf] [into_0] σ zz_.2 ∧ ((zz_.1 = true) → (SHa zz_.2 into_0))) := by
  unfold fG_make
  have c1 := ii_kN_hot hσ 0
  refine wp_bd (s_G_sweep (σ := σ) hσ) ?_
  rintro σ_2 - ⟨hσ_2, flσ_2⟩
  have frσ_2 : FC [kG_above, kG_active, kG_actives, kG_begin, kG_corner, kG_corners, kG_goesBack, kG_incident, kG_isBoundary, kG_onPath, kG_order, kG_path, kG_ringArea, kG_ringBegin, kG_rings, kG_shellOf] [into_0] σ σ_2 := FC_le flσ_2 (by first | decide | (rcases hE with rfl | rfl | rfl <;> decide)) (by simp)
  refine wp_bd (s_G_markBoundary (σ := σ_2) (way_0 := way_0) hσ_2 (by (try dsimp only) <;> first | assumption | omega | ((try simp (disch := omega) only [w32_of, w64_of, w8_of]) <;> first | assumption | omega | (split <;> omega) | (refine And.intro ?_ ?_ <;> split <;> omega)) | omega)) ?_
  rintro σ_4 - ⟨hσ_4, flσ_4r⟩
  have flσ_4 := FC_of flσ_4r (by decide)
  have frσ_4 : FC [kG_above, kG_active, kG_actives, kG_begin, kG_corner, kG_corners, kG_goesBack, kG_incident, kG_isBoundary, kG_onPath, kG_order, kG_path, kG_ringArea, kG_ringBegin, kG_rings, kG_shellOf] [into_0] σ σ_4 := FC_tr frσ_2 flσ_4 (by first | decide | (rcases hE with rfl | rfl | rfl <;> decide)) (by first | decide | (rcases hE with rfl | rfl | rfl <;> decide)) (by simp) (by simp)
  have c2 := ii_kN_hot hσ_4 0
  have c3 := FC_at flσ_4 (c := kN_hot) (by first | decide | (rcases hE with rfl | rfl | rfl <;> decide)) 0
  have c4 := ii_kN_hot hσ_2 0
  have c5 := FC_at flσ_2 (c := kN_hot) (by first | decide | (rcases hE with rfl | rfl | rfl <;> decide)) 0
  refine wp_bd (s_G_listIncident (σ := σ_4) hσ_4 (by rw [FC_at frσ_4 (c := kN_hot) (by decide)]; exact PFs_f frσ_4 (by decide) w0)) ?_
  rintro σ_6 - ⟨hσ_6, flσ_6⟩
  have frσ_6 : FC [kG_above, kG_active, kG_actives, kG_begin, kG_corner, kG_corners, kG_goesBack, kG_incident, kG_isBoundary, kG_onPath, kG_order, kG_path, kG_ringArea, kG_ringBegin, kG_rings, kG_shellOf] [into_0] σ σ_6 := FC_tr frσ_4 flσ_6 (by first | decide | (rcases hE with rfl | rfl | rfl <;> decide)) (by first | decide | (rcases hE with rfl | rfl | rfl <;> decide)) (by simp) (by simp)
  refine wp_bd (s_G_traceRings (σ := σ_6) hσ_6) ?_
  rintro ⟨x_9, σ_8⟩ - y6
  try dsimp only at y6 ⊢
  obtain ⟨hσ_8, flσ_8, htr⟩ := y6
  have frσ_8 : FC [kG_above, kG_active, kG_actives, kG_begin, kG_corner, kG_corners, kG_goesBack, kG_incident, kG_isBoundary, kG_onPath, kG_order, kG_path, kG_ringArea, kG_ringBegin, kG_rings, kG_shellOf] [into_0] σ σ_8 := FC_tr frσ_6 flσ_8 (by first | decide | (rcases hE with rfl | rfl | rfl <;> decide)) (by first | decide | (rcases hE with rfl | rfl | rfl <;> decide)) (by simp) (by simp)
  try simp (disch := omega) only [w32_of, w64_of, w8_of] at htr
  refine wp_if (fun c7 => ?_) (fun c7 => ?_)
  · have k8 := htr c7
    try simp (disch := omega) only [w32_of, w64_of, w8_of] at k8
    try simp (disch := omega) only [w32_of, w64_of, w8_of, decide_eq_true_eq, decide_eq_false_iff_not, Bool.not_eq_true] at c7
    refine wp_bd (s_G_giveHolesToShells (σ := σ_8) hσ_8) ?_
    rintro σ_12 - ⟨hσ_12, flσ_12⟩
    have frσ_12 : FC [kG_above, kG_active, kG_actives, kG_begin, kG_corner, kG_corners, kG_goesBack, kG_incident, kG_isBoundary, kG_onPath, kG_order, kG_path, kG_ringArea, kG_ringBegin, kG_rings, kG_shellOf] [into_0] σ σ_12 := FC_tr frσ_8 flσ_12 (by first | decide | (rcases hE with rfl | rfl | rfl <;> decide)) (by first | decide | (rcases hE with rfl | rfl | rfl <;> decide)) (by simp) (by simp)
    refine wp_bd (s_G_sortRings (σ := σ_12) hσ_12 (by exact RGs_f flσ_12 (by decide) (htr (by assumption)))) ?_
    rintro σ_14 - ⟨hσ_14, flσ_14, hso⟩
    have frσ_14 : FC [kG_above, kG_active, kG_actives, kG_begin, kG_corner, kG_corners, kG_goesBack, kG_incident, kG_isBoundary, kG_onPath, kG_order, kG_path, kG_ringArea, kG_ringBegin, kG_rings, kG_shellOf] [into_0] σ σ_14 := FC_tr frσ_12 flσ_14 (by first | decide | (rcases hE with rfl | rfl | rfl <;> decide)) (by first | decide | (rcases hE with rfl | rfl | rfl <;> decide)) (by simp) (by simp)
    have c9 := ii_kG_rings hσ_12 0
    have c10 := FC_at flσ_12 (c := kG_rings) (by first | decide | (rcases hE with rfl | rfl | rfl <;> decide)) 0
    have c11 := ii_kG_rings hσ_8 0
    try simp (disch := omega) only [w32_of, w64_of, w8_of] at hso
    have c12 := ii_kG_rings hσ_14 0
    have c13 := FC_at flσ_14 (c := kG_rings) (by first | decide | (rcases hE with rfl | rfl | rfl <;> decide)) 0
    refine wp_bd (s_G_tellPolygons (σ := σ_14) (into_0 := into_0) hσ_14 (by first | assumption | decide | omega) (by exact RGs_f flσ_14 (by decide) (RGs_f flσ_12 (by decide) (htr (by assumption)))) (by rw [FC_at flσ_14 (c := kG_rings) (by decide)]; exact hso)) ?_
    rintro ⟨x_17, σ_16⟩ - y14
    try dsimp only at y14 ⊢
    obtain ⟨hσ_16, flσ_16, htp⟩ := y14
    have frσ_16 : FC [kG_above, kG_active, kG_actives, kG_begin, kG_corner, kG_corners, kG_goesBack, kG_incident, kG_isBoundary, kG_onPath, kG_order, kG_path, kG_ringArea, kG_ringBegin, kG_rings, kG_shellOf] [into_0] σ σ_16 := FC_tr frσ_14 flσ_16 (by first | decide | (rcases hE with rfl | rfl | rfl <;> decide)) (by first | decide | (rcases hE with rfl | rfl | rfl <;> decide)) (by simp) (by simp)
    try simp (disch := omega) only [w32_of, w64_of, w8_of] at htp
    exact wp_some ⟨hσ_16, frσ_16, (by (try dsimp only) <;> (intro q9; first | exact absurd q9 (by decide) | exact htp q9))⟩
  · try simp (disch := omega) only [w32_of, w64_of, w8_of, decide_eq_true_eq, decide_eq_false_iff_not, Bool.not_eq_true] at c7
    exact wp_some ⟨hσ_8, frσ_8, (fun q => (by cases q))⟩
