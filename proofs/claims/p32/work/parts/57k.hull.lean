theorem v_hullBehindF {σ : SG} {a_0 : Int} {nearest_0 : Bool} (hσ : II σ) (qa_0 : (-1) ≤ a_0 ∧ a_0 ≤ 1023) (w0 : 0 ≤ a_0) (w1 : 2 ≤ σ kR_spots 0) : wp_ (fR_hullBehind σ a_0 nearest_0) (fun zz_ => ((-1) ≤ zz_ ∧ zz_ ≤ 1023) ∧ (0 ≤ zz_)) := by
  unfold fR_hullBehind
  have c1 := ii_kR_spots hσ 0
  refine wp_bd (P := fun rr_ => ((-1) ≤ rr_.1 ∧ rr_.1 ≤ 1023) ∧ (0 ≤ rr_.2 ∧ rr_.2 ≤ 1024) ∧ (0 ≤ rr_.1)) ?_ ?_
  · refine wp_whl (fun ss_ => ((-1) ≤ ss_.1 ∧ ss_.1 ≤ 1023) ∧ (0 ≤ ss_.2 ∧ ss_.2 ≤ 1024) ∧ (ss_.1 = -1 → ss_.2 = 0 ∨ (ss_.2 = 1 ∧ a_0 = 0))) (fun ss_ => (1025 - ss_.2).toNat) ⟨(by (try dsimp only) <;> first | assumption | omega | ((try simp (disch := omega) only [w32_of, w64_of, w8_of]) <;> first | assumption | omega | (split <;> omega) | (refine And.intro ?_ ?_ <;> split <;> omega)) | omega), (by (try dsimp only) <;> first | assumption | omega | ((try simp (disch := omega) only [w32_of, w64_of, w8_of]) <;> first | assumption | omega | (split <;> omega) | (refine And.intro ?_ ?_ <;> split <;> omega)) | omega), (by (try dsimp only) <;> first | assumption | omega | ((try simp (disch := omega) only [w32_of, w64_of, w8_of]) <;> first | assumption | omega | (split <;> omega) | (refine And.intro ?_ ?_ <;> split <;> omega)) | omega)⟩ ?_
    rintro ⟨best_1, k_2⟩ y5
    try dsimp only at y5 ⊢
    obtain ⟨g2, g3, g4⟩ := y5
    have c7 := w32_rng k_2
    have c8 := w32_rng (σ kR_spots 0)
    refine wp_if (fun c6 => ?_) (fun c6 => ?_)
    · try simp (disch := omega) only [w32_of, w64_of, w8_of, decide_eq_true_eq, decide_eq_false_iff_not, Bool.not_eq_true] at c6
      have c10 := w32_rng a_0
      refine wp_if (fun c9 => ?_) (fun c9 => ?_)
      · try simp (disch := omega) only [w32_of, w64_of, w8_of, decide_eq_true_eq, decide_eq_false_iff_not, Bool.not_eq_true] at c9
        exact wp_some (x_inl ⟨⟨(by (try dsimp only) <;> first | assumption | omega | ((try simp (disch := omega) only [w32_of, w64_of, w8_of]) <;> first | assumption | omega | (split <;> omega) | (refine And.intro ?_ ?_ <;> split <;> omega)) | omega), (by (try dsimp only) <;> first | assumption | omega | ((try simp (disch := omega) only [w32_of, w64_of, w8_of]) <;> first | assumption | omega | (split <;> omega) | (refine And.intro ?_ ?_ <;> split <;> omega)) | omega), (by (try dsimp only) <;> first | assumption | omega | ((try simp (disch := omega) only [w32_of, w64_of, w8_of]) <;> first | assumption | omega | (split <;> omega) | (refine And.intro ?_ ?_ <;> split <;> omega)) | omega)⟩, (by (try dsimp only) <;> first | assumption | omega | ((try simp (disch := omega) only [w32_of, w64_of, w8_of]) <;> first | assumption | omega | (split <;> omega) | (refine And.intro ?_ ?_ <;> split <;> omega)) | omega)⟩)
      · try simp (disch := omega) only [w32_of, w64_of, w8_of, decide_eq_true_eq, decide_eq_false_iff_not, Bool.not_eq_true] at c9
        have c12 := w32_rng best_1
        refine wp_if (fun c11 => ?_) (fun c11 => ?_)
        · try simp (disch := omega) only [w32_of, w64_of, w8_of, decide_eq_true_eq, decide_eq_false_iff_not, Bool.not_eq_true] at c11
          exact wp_some (x_inl ⟨⟨(by (try dsimp only) <;> first | assumption | omega | ((try simp (disch := omega) only [w32_of, w64_of, w8_of]) <;> first | assumption | omega | (split <;> omega) | (refine And.intro ?_ ?_ <;> split <;> omega)) | omega), (by (try dsimp only) <;> first | assumption | omega | ((try simp (disch := omega) only [w32_of, w64_of, w8_of]) <;> first | assumption | omega | (split <;> omega) | (refine And.intro ?_ ?_ <;> split <;> omega)) | omega), (by (try dsimp only) <;> first | assumption | omega | ((try simp (disch := omega) only [w32_of, w64_of, w8_of]) <;> first | assumption | omega | (split <;> omega) | (refine And.intro ?_ ?_ <;> split <;> omega)) | omega)⟩, (by (try dsimp only) <;> first | assumption | omega | ((try simp (disch := omega) only [w32_of, w64_of, w8_of]) <;> first | assumption | omega | (split <;> omega) | (refine And.intro ?_ ?_ <;> split <;> omega)) | omega)⟩)
        · try simp (disch := omega) only [w32_of, w64_of, w8_of, decide_eq_true_eq, decide_eq_false_iff_not, Bool.not_eq_true] at c11
          refine wp_bd (v_turnOf (σ := σ) (a := a_0) (b := best_1) (c := k_2) hσ (by (try dsimp only) <;> first | assumption | omega | ((try simp (disch := omega) only [w32_of, w64_of, w8_of]) <;> first | assumption | omega | (split <;> omega) | (refine And.intro ?_ ?_ <;> split <;> omega)) | omega) (by (try dsimp only) <;> first | assumption | omega | ((try simp (disch := omega) only [w32_of, w64_of, w8_of]) <;> first | assumption | omega | (split <;> omega) | (refine And.intro ?_ ?_ <;> split <;> omega)) | omega) (by (try dsimp only) <;> first | assumption | omega | ((try simp (disch := omega) only [w32_of, w64_of, w8_of]) <;> first | assumption | omega | (split <;> omega) | (refine And.intro ?_ ?_ <;> split <;> omega)) | omega) (by (try dsimp only) <;> first | assumption | omega | ((try simp (disch := omega) only [w32_of, w64_of, w8_of]) <;> first | assumption | omega | (split <;> omega) | (refine And.intro ?_ ?_ <;> split <;> omega)) | omega) (by (try dsimp only) <;> first | assumption | omega | ((try simp (disch := omega) only [w32_of, w64_of, w8_of]) <;> first | assumption | omega | (split <;> omega) | (refine And.intro ?_ ?_ <;> split <;> omega)) | omega) (by (try dsimp only) <;> first | assumption | omega | ((try simp (disch := omega) only [w32_of, w64_of, w8_of]) <;> first | assumption | omega | (split <;> omega) | (refine And.intro ?_ ?_ <;> split <;> omega)) | omega)) ?_
          rintro x_16 - ⟨g13, g14, g15, g16, g17⟩
          try simp (disch := omega) only [w32_of, w64_of, w8_of] at g13
          try simp (disch := omega) only [w32_of, w64_of, w8_of] at g14
          try simp (disch := omega) only [w32_of, w64_of, w8_of] at g15
          try simp (disch := omega) only [w32_of, w64_of, w8_of] at g16
          try simp (disch := omega) only [w32_of, w64_of, w8_of] at g17
          refine wp_bdk ?_
          refine wp_bd (v_wayTo (σ := σ) (a := a_0) (b := k_2) hσ (by (try dsimp only) <;> first | assumption | omega | ((try simp (disch := omega) only [w32_of, w64_of, w8_of]) <;> first | assumption | omega | (split <;> omega) | (refine And.intro ?_ ?_ <;> split <;> omega)) | omega) (by (try dsimp only) <;> first | assumption | omega | ((try simp (disch := omega) only [w32_of, w64_of, w8_of]) <;> first | assumption | omega | (split <;> omega) | (refine And.intro ?_ ?_ <;> split <;> omega)) | omega) (by (try dsimp only) <;> first | assumption | omega | ((try simp (disch := omega) only [w32_of, w64_of, w8_of]) <;> first | assumption | omega | (split <;> omega) | (refine And.intro ?_ ?_ <;> split <;> omega)) | omega) (by (try dsimp only) <;> first | assumption | omega | ((try simp (disch := omega) only [w32_of, w64_of, w8_of]) <;> first | assumption | omega | (split <;> omega) | (refine And.intro ?_ ?_ <;> split <;> omega)) | omega)) ?_
          rintro x_18 - ⟨g18, g19⟩
          try simp (disch := omega) only [w32_of, w64_of, w8_of] at g18
          try simp (disch := omega) only [w32_of, w64_of, w8_of] at g19
          refine wp_bd (v_wayTo (σ := σ) (a := a_0) (b := best_1) hσ (by (try dsimp only) <;> first | assumption | omega | ((try simp (disch := omega) only [w32_of, w64_of, w8_of]) <;> first | assumption | omega | (split <;> omega) | (refine And.intro ?_ ?_ <;> split <;> omega)) | omega) (by (try dsimp only) <;> first | assumption | omega | ((try simp (disch := omega) only [w32_of, w64_of, w8_of]) <;> first | assumption | omega | (split <;> omega) | (refine And.intro ?_ ?_ <;> split <;> omega)) | omega) (by (try dsimp only) <;> first | assumption | omega | ((try simp (disch := omega) only [w32_of, w64_of, w8_of]) <;> first | assumption | omega | (split <;> omega) | (refine And.intro ?_ ?_ <;> split <;> omega)) | omega) (by (try dsimp only) <;> first | assumption | omega | ((try simp (disch := omega) only [w32_of, w64_of, w8_of]) <;> first | assumption | omega | (split <;> omega) | (refine And.intro ?_ ?_ <;> split <;> omega)) | omega)) ?_
          rintro x_20 - ⟨g20, g21⟩
          try simp (disch := omega) only [w32_of, w64_of, w8_of] at g20
          try simp (disch := omega) only [w32_of, w64_of, w8_of] at g21
          have c23 := w64_rng x_18
          have c24 := w64_rng x_20
          refine wp_if (fun c22 => ?_) (fun c22 => ?_)
          · try simp (disch := omega) only [w32_of, w64_of, w8_of, decide_eq_true_eq, decide_eq_false_iff_not, Bool.not_eq_true] at c22
            refine wp_somek ?_
            try dsimp only
            refine wp_bd (P := fun rr_ => (0 ≤ rr_ ∧ rr_ ≤ 1023) ∧ (0 ≤ rr_)) ?_ ?_
            · have c26 := w32_rng x_16
              refine wp_if (fun c25 => ?_) (fun c25 => ?_)
              · try simp (disch := omega) only [w32_of, w64_of, w8_of, decide_eq_true_eq, decide_eq_false_iff_not, Bool.not_eq_true] at c25
                exact wp_some ⟨(by (try dsimp only) <;> first | assumption | omega | ((try simp (disch := omega) only [w32_of, w64_of, w8_of]) <;> first | assumption | omega | (split <;> omega) | (refine And.intro ?_ ?_ <;> split <;> omega)) | omega), (by (try dsimp only) <;> first | assumption | omega | ((try simp (disch := omega) only [w32_of, w64_of, w8_of]) <;> first | assumption | omega | (split <;> omega) | (refine And.intro ?_ ?_ <;> split <;> omega)) | omega)⟩
              · try simp (disch := omega) only [w32_of, w64_of, w8_of, decide_eq_true_eq, decide_eq_false_iff_not, Bool.not_eq_true] at c25
                exact wp_some ⟨(by (try dsimp only) <;> first | assumption | omega | ((try simp (disch := omega) only [w32_of, w64_of, w8_of]) <;> first | assumption | omega | (split <;> omega) | (refine And.intro ?_ ?_ <;> split <;> omega)) | omega), (by (try dsimp only) <;> first | assumption | omega | ((try simp (disch := omega) only [w32_of, w64_of, w8_of]) <;> first | assumption | omega | (split <;> omega) | (refine And.intro ?_ ?_ <;> split <;> omega)) | omega)⟩
            rintro best_40 _ ⟨g27, g28⟩
            exact wp_some (x_inl ⟨⟨(by (try dsimp only) <;> first | assumption | omega | ((try simp (disch := omega) only [w32_of, w64_of, w8_of]) <;> first | assumption | omega | (split <;> omega) | (refine And.intro ?_ ?_ <;> split <;> omega)) | omega), (by (try dsimp only) <;> first | assumption | omega | ((try simp (disch := omega) only [w32_of, w64_of, w8_of]) <;> first | assumption | omega | (split <;> omega) | (refine And.intro ?_ ?_ <;> split <;> omega)) | omega), (by (try dsimp only) <;> first | assumption | omega | ((try simp (disch := omega) only [w32_of, w64_of, w8_of]) <;> first | assumption | omega | (split <;> omega) | (refine And.intro ?_ ?_ <;> split <;> omega)) | omega)⟩, (by (try dsimp only) <;> first | assumption | omega | ((try simp (disch := omega) only [w32_of, w64_of, w8_of]) <;> first | assumption | omega | (split <;> omega) | (refine And.intro ?_ ?_ <;> split <;> omega)) | omega)⟩)
          · try simp (disch := omega) only [w32_of, w64_of, w8_of, decide_eq_true_eq, decide_eq_false_iff_not, Bool.not_eq_true] at c22
            refine wp_somek ?_
            try dsimp only
            refine wp_bd (P := fun rr_ => (0 ≤ rr_ ∧ rr_ ≤ 1023) ∧ (0 ≤ rr_)) ?_ ?_
            · have c30 := w32_rng x_16
              refine wp_if (fun c29 => ?_) (fun c29 => ?_)
              · try simp (disch := omega) only [w32_of, w64_of, w8_of, decide_eq_true_eq, decide_eq_false_iff_not, Bool.not_eq_true] at c29
                exact wp_some ⟨(by (try dsimp only) <;> first | assumption | omega | ((try simp (disch := omega) only [w32_of, w64_of, w8_of]) <;> first | assumption | omega | (split <;> omega) | (refine And.intro ?_ ?_ <;> split <;> omega)) | omega), (by (try dsimp only) <;> first | assumption | omega | ((try simp (disch := omega) only [w32_of, w64_of, w8_of]) <;> first | assumption | omega | (split <;> omega) | (refine And.intro ?_ ?_ <;> split <;> omega)) | omega)⟩
              · try simp (disch := omega) only [w32_of, w64_of, w8_of, decide_eq_true_eq, decide_eq_false_iff_not, Bool.not_eq_true] at c29
                exact wp_some ⟨(by (try dsimp only) <;> first | assumption | omega | ((try simp (disch := omega) only [w32_of, w64_of, w8_of]) <;> first | assumption | omega | (split <;> omega) | (refine And.intro ?_ ?_ <;> split <;> omega)) | omega), (by (try dsimp only) <;> first | assumption | omega | ((try simp (disch := omega) only [w32_of, w64_of, w8_of]) <;> first | assumption | omega | (split <;> omega) | (refine And.intro ?_ ?_ <;> split <;> omega)) | omega)⟩
            rintro best_40 _ ⟨g31, g32⟩
            exact wp_some (x_inl ⟨⟨(by (try dsimp only) <;> first | assumption | omega | ((try simp (disch := omega) only [w32_of, w64_of, w8_of]) <;> first | assumption | omega | (split <;> omega) | (refine And.intro ?_ ?_ <;> split <;> omega)) | omega), (by (try dsimp only) <;> first | assumption | omega | ((try simp (disch := omega) only [w32_of, w64_of, w8_of]) <;> first | assumption | omega | (split <;> omega) | (refine And.intro ?_ ?_ <;> split <;> omega)) | omega), (by (try dsimp only) <;> first | assumption | omega | ((try simp (disch := omega) only [w32_of, w64_of, w8_of]) <;> first | assumption | omega | (split <;> omega) | (refine And.intro ?_ ?_ <;> split <;> omega)) | omega)⟩, (by (try dsimp only) <;> first | assumption | omega | ((try simp (disch := omega) only [w32_of, w64_of, w8_of]) <;> first | assumption | omega | (split <;> omega) | (refine And.intro ?_ ?_ <;> split <;> omega)) | omega)⟩)
    · try simp (disch := omega) only [w32_of, w64_of, w8_of, decide_eq_true_eq, decide_eq_false_iff_not, Bool.not_eq_true] at c6
      exact wp_some (x_inr ⟨(by (try dsimp only) <;> first | assumption | omega | ((try simp (disch := omega) only [w32_of, w64_of, w8_of]) <;> first | assumption | omega | (split <;> omega) | (refine And.intro ?_ ?_ <;> split <;> omega)) | omega), (by (try dsimp only) <;> first | assumption | omega | ((try simp (disch := omega) only [w32_of, w64_of, w8_of]) <;> first | assumption | omega | (split <;> omega) | (refine And.intro ?_ ?_ <;> split <;> omega)) | omega), (by (try dsimp only) <;> first | assumption | omega | ((try simp (disch := omega) only [w32_of, w64_of, w8_of]) <;> first | assumption | omega | (split <;> omega) | (refine And.intro ?_ ?_ <;> split <;> omega)) | omega)⟩)
  rintro ⟨best_48, k_49⟩ _ y36
  try dsimp only at y36 ⊢
  obtain ⟨g33, g34, g35⟩ := y36
  exact wp_some ⟨(by (try dsimp only) <;> first | assumption | omega | ((try simp (disch := omega) only [w32_of, w64_of, w8_of]) <;> first | assumption | omega | (split <;> omega) | (refine And.intro ?_ ?_ <;> split <;> omega)) | omega), (by (try dsimp only) <;> first | assumption | omega | ((try simp (disch := omega) only [w32_of, w64_of, w8_of]) <;> first | assumption | omega | (split <;> omega) | (refine And.intro ?_ ?_ <;> split <;> omega)) | omega)⟩
theorem v_gatherSpots {σ : SG} {slot_0 : Int} (hσ : II σ) (qslot_0 : 0 ≤ slot_0 ∧ slot_0 ≤ 31) : wp_ (fR_gatherSpots σ slot_0) (fun zz_ => II zz_.2 ∧ FR [kR_spotX, kR_spotY, kR_spots] σ zz_.2 ∧ (DS zz_.2)) := by
  unfold fR_gatherSpots
  refine wp_wfI hσ b_kR_spots (by (try dsimp only) <;> first | assumption | omega | ((try simp (disch := omega) only [w32_of, w64_of, w8_of]) <;> first | assumption | omega | (split <;> omega) | (refine And.intro ?_ ?_ <;> split <;> omega)) | omega) (fun σ_1 hσ_1 eσ_1 => ?_)
  try simp (disch := omega) only [w32_of, w64_of, w8_of] at eσ_1
  have flσ_1 := FR_sg eσ_1
  have frσ_1 : FR [kR_spotX, kR_spotY, kR_spots] σ σ_1 := FR_le flσ_1 (by decide)
  refine wp_bx (P := fun rr_ => (0 ≤ rr_.1 ∧ rr_.1 ≤ 65536) ∧ II rr_.2 ∧ FR [kR_spotX, kR_spotY, kR_spots] σ rr_.2 ∧ (DS rr_.2)) ?_ ?_
  · refine wp_whl (fun ss_ => (0 ≤ ss_.1 ∧ ss_.1 ≤ 65536) ∧ II ss_.2 ∧ FR [kR_spotX, kR_spotY, kR_spots] σ ss_.2 ∧ (2048 * slot_0 ≤ ss_.1) ∧ (DS ss_.2)) (fun ss_ => (65600 - ss_.1).toNat) ⟨(by (try dsimp only) <;> first | assumption | omega | ((try simp (disch := omega) only [w32_of, w64_of, w8_of]) <;> first | assumption | omega | (split <;> omega) | (refine And.intro ?_ ?_ <;> split <;> omega)) | omega), hσ_1, frσ_1, (by (try dsimp only) <;> first | assumption | omega | ((try simp (disch := omega) only [w32_of, w64_of, w8_of]) <;> first | assumption | omega | (split <;> omega) | (refine And.intro ?_ ?_ <;> split <;> omega)) | omega), (by (try dsimp only) <;> (first | (intro i j i0 i1; exact absurd i1 (by rw [sg_val eσ_1]; omega)) | exact gd | exact ds63))⟩ ?_
    rintro ⟨k_2, σ_3⟩ y3
    try dsimp only at y3 ⊢
    obtain ⟨g1, hσ_3, frσ_3, g2, gd⟩ := y3
    have c4 := w32_rng slot_0
    refine wp_rdI (by (try dsimp only) <;> first | assumption | omega | ((try simp (disch := omega) only [w32_of, w64_of, w8_of]) <;> first | assumption | omega | (split <;> omega) | (refine And.intro ?_ ?_ <;> split <;> omega)) | omega) (by (try dsimp only) <;> first | assumption | omega | ((try simp (disch := omega) only [w32_of, w64_of, w8_of]) <;> first | assumption | omega | (split <;> omega) | (refine And.intro ?_ ?_ <;> split <;> omega)) | omega) (fun x_11 e_x_11 => ?_)
    have b_x_11 : 0 ≤ x_11 ∧ x_11 ≤ 2048 := by rw [e_x_11]; exact ii_kR_pointMany hσ_3 _
    rw [FR_at frσ_3 (c := kR_pointMany) (by decide)] at e_x_11
    try simp (disch := omega) only [w32_of, w64_of, w8_of] at e_x_11
    have c5 := ii_kR_pointMany hσ_3 slot_0
    have c6 := FR_at frσ_3 (c := kR_pointMany) (by decide) slot_0
    have c7 := ii_kR_pointMany hσ slot_0
    have c9 := w32_rng k_2
    have c10 := w32_rng ((2048 * slot_0) + x_11)
    refine wp_if (fun c8 => ?_) (fun c8 => ?_)
    · try simp (disch := omega) only [w32_of, w64_of, w8_of, decide_eq_true_eq, decide_eq_false_iff_not, Bool.not_eq_true] at c8
      refine wp_bd (P := fun rr_ => (0 ≤ rr_.2 ∧ rr_.2 ≤ 1024) ∧ ((rr_.1 = false) → ∀ s, 0 ≤ s → s < σ_3 kR_spots 0 → ¬ (σ_3 kR_spotX s = σ kR_xs k_2 ∧ σ_3 kR_spotY s = σ kR_ys k_2))) ?_ ?_
      · have c11 := ii_kR_xs hσ k_2
        have c12 := ii_kR_ys hσ k_2
        refine wp_whl (fun ss_ => (0 ≤ ss_.2 ∧ ss_.2 ≤ 1024) ∧ ((ss_.1 = false) → ∀ s, 0 ≤ s → s < ss_.2 → ¬ (σ_3 kR_spotX s = σ kR_xs k_2 ∧ σ_3 kR_spotY s = σ kR_ys k_2))) (fun ss_ => (2000 - ss_.2).toNat) ⟨(by (try dsimp only) <;> first | assumption | omega | ((try simp (disch := omega) only [w32_of, w64_of, w8_of]) <;> first | assumption | omega | (split <;> omega) | (refine And.intro ?_ ?_ <;> split <;> omega)) | omega), (by (try dsimp only) <;> (first | (intro _ s a b; exact absurd b (by omega)) | (intro h s a b; by_cases q : s = s_15 <;> first | (rw [q]; exact gx h) | (refine gk ?_ s a ?_ <;> first | omega | simp_all))))⟩ ?_
        rintro ⟨known_14, s_15⟩ y14
        try dsimp only at y14 ⊢
        obtain ⟨g13, gk⟩ := y14
        have c15 := w32_rng s_15
        have c16 := ii_kR_spots hσ_3 0
        have c17 := w32_rng (σ_3 kR_spots 0)
        refine wp_if (fun cl => ?_) (fun cl => ?_)
        · try simp (disch := omega) only [w32_of, w64_of, w8_of, decide_eq_true_eq, decide_eq_false_iff_not, Bool.not_eq_true] at cl
          refine wp_bd (P := fun rr_ => ((rr_ = false) → ¬ (σ_3 kR_spotX s_15 = σ kR_xs k_2 ∧ σ_3 kR_spotY s_15 = σ kR_ys k_2))) ?_ ?_
          · refine wp_rdI (by (try dsimp only) <;> first | assumption | omega | ((try simp (disch := omega) only [w32_of, w64_of, w8_of]) <;> first | assumption | omega | (split <;> omega) | (refine And.intro ?_ ?_ <;> split <;> omega)) | omega) (by (try dsimp only) <;> first | assumption | omega | ((try simp (disch := omega) only [w32_of, w64_of, w8_of]) <;> first | assumption | omega | (split <;> omega) | (refine And.intro ?_ ?_ <;> split <;> omega)) | omega) (fun x_23 e_x_23 => ?_)
            have b_x_23 : (-1000000000) ≤ x_23 ∧ x_23 ≤ 1000000000 := by rw [e_x_23]; exact ii_kR_spotX hσ_3 _
            try simp (disch := omega) only [w32_of, w64_of, w8_of] at e_x_23
            have c18 := ii_kR_spotX hσ_3 s_15
            refine wp_rdI (by (try dsimp only) <;> first | assumption | omega | ((try simp (disch := omega) only [w32_of, w64_of, w8_of]) <;> first | assumption | omega | (split <;> omega) | (refine And.intro ?_ ?_ <;> split <;> omega)) | omega) (by (try dsimp only) <;> first | assumption | omega | ((try simp (disch := omega) only [w32_of, w64_of, w8_of]) <;> first | assumption | omega | (split <;> omega) | (refine And.intro ?_ ?_ <;> split <;> omega)) | omega) (fun x_25 e_x_25 => ?_)
            have b_x_25 : (-1000000000) ≤ x_25 ∧ x_25 ≤ 1000000000 := by rw [e_x_25]; exact ii_kR_xs hσ_3 _
            rw [FR_at frσ_3 (c := kR_xs) (by decide)] at e_x_25
            try simp (disch := omega) only [w32_of, w64_of, w8_of] at e_x_25
            have c19 := ii_kR_xs hσ_3 k_2
            have c20 := FR_at frσ_3 (c := kR_xs) (by decide) k_2
            have c22 := w64_rng x_23
            have c23 := w32_rng x_25
            have c24 := w64_rng (w32 x_25)
            refine wp_if (fun c21 => ?_) (fun c21 => ?_)
            · try simp (disch := omega) only [w32_of, w64_of, w8_of, decide_eq_true_eq, decide_eq_false_iff_not, Bool.not_eq_true] at c21
              refine wp_rdI (by (try dsimp only) <;> first | assumption | omega | ((try simp (disch := omega) only [w32_of, w64_of, w8_of]) <;> first | assumption | omega | (split <;> omega) | (refine And.intro ?_ ?_ <;> split <;> omega)) | omega) (by (try dsimp only) <;> first | assumption | omega | ((try simp (disch := omega) only [w32_of, w64_of, w8_of]) <;> first | assumption | omega | (split <;> omega) | (refine And.intro ?_ ?_ <;> split <;> omega)) | omega) (fun x_28 e_x_28 => ?_)
              have b_x_28 : (-1000000000) ≤ x_28 ∧ x_28 ≤ 1000000000 := by rw [e_x_28]; exact ii_kR_spotY hσ_3 _
              try simp (disch := omega) only [w32_of, w64_of, w8_of] at e_x_28
              have c25 := ii_kR_spotY hσ_3 s_15
              refine wp_rdI (by (try dsimp only) <;> first | assumption | omega | ((try simp (disch := omega) only [w32_of, w64_of, w8_of]) <;> first | assumption | omega | (split <;> omega) | (refine And.intro ?_ ?_ <;> split <;> omega)) | omega) (by (try dsimp only) <;> first | assumption | omega | ((try simp (disch := omega) only [w32_of, w64_of, w8_of]) <;> first | assumption | omega | (split <;> omega) | (refine And.intro ?_ ?_ <;> split <;> omega)) | omega) (fun x_30 e_x_30 => ?_)
              have b_x_30 : (-1000000000) ≤ x_30 ∧ x_30 ≤ 1000000000 := by rw [e_x_30]; exact ii_kR_ys hσ_3 _
              rw [FR_at frσ_3 (c := kR_ys) (by decide)] at e_x_30
              try simp (disch := omega) only [w32_of, w64_of, w8_of] at e_x_30
              have c26 := ii_kR_ys hσ_3 k_2
              have c27 := FR_at frσ_3 (c := kR_ys) (by decide) k_2
              have c29 := w64_rng x_28
              have c30 := w32_rng x_30
              have c31 := w64_rng (w32 x_30)
              refine wp_if (fun c28 => ?_) (fun c28 => ?_)
              · try simp (disch := omega) only [w32_of, w64_of, w8_of, decide_eq_true_eq, decide_eq_false_iff_not, Bool.not_eq_true] at c28
                exact wp_some (fun q => (by cases q))
              · try simp (disch := omega) only [w32_of, w64_of, w8_of, decide_eq_true_eq, decide_eq_false_iff_not, Bool.not_eq_true] at c28
                exact wp_some (by (try dsimp only) <;> (first | (intro h; exact absurd h (by decide)) | (intro _ ⟨q1, q2⟩; omega)))
            · try simp (disch := omega) only [w32_of, w64_of, w8_of, decide_eq_true_eq, decide_eq_false_iff_not, Bool.not_eq_true] at c21
              have c32 := ii_kR_spotY hσ_3 s_15
              exact wp_some (by (try dsimp only) <;> (first | (intro h; exact absurd h (by decide)) | (intro _ ⟨q1, q2⟩; omega)))
          rintro x_36 _ gx
          exact wp_some (x_inl ⟨⟨(by (try dsimp only) <;> first | assumption | omega | ((try simp (disch := omega) only [w32_of, w64_of, w8_of]) <;> first | assumption | omega | (split <;> omega) | (refine And.intro ?_ ?_ <;> split <;> omega)) | omega), (by (try dsimp only) <;> (first | (intro _ s a b; exact absurd b (by omega)) | (intro h s a b; by_cases q : s = s_15 <;> first | (rw [q]; exact gx h) | (refine gk ?_ s a ?_ <;> first | omega | simp_all))))⟩, (by (try dsimp only) <;> first | assumption | omega | ((try simp (disch := omega) only [w32_of, w64_of, w8_of]) <;> first | assumption | omega | (split <;> omega) | (refine And.intro ?_ ?_ <;> split <;> omega)) | omega)⟩)
        · try simp (disch := omega) only [w32_of, w64_of, w8_of, decide_eq_true_eq, decide_eq_false_iff_not, Bool.not_eq_true] at cl
          exact wp_some (x_inr ⟨(by (try dsimp only) <;> first | assumption | omega | ((try simp (disch := omega) only [w32_of, w64_of, w8_of]) <;> first | assumption | omega | (split <;> omega) | (refine And.intro ?_ ?_ <;> split <;> omega)) | omega), (by (try dsimp only) <;> (intro h s a b; by_cases z : s < s_15; exact gk h s a z; exact absurd ⟨by omega, by simp [h]⟩ cl))⟩)
      rintro ⟨known_50, s_51⟩ _ y34
      try dsimp only at y34 ⊢
      obtain ⟨g33, gk⟩ := y34
      refine wp_if (fun c35 => ?_) (fun c35 => ?_)
      · try simp (disch := omega) only [w32_of, w64_of, w8_of, decide_eq_true_eq, decide_eq_false_iff_not, Bool.not_eq_true] at c35
        exact wp_some (x_inl ⟨⟨(by (try dsimp only) <;> first | assumption | omega | ((try simp (disch := omega) only [w32_of, w64_of, w8_of]) <;> first | assumption | omega | (split <;> omega) | (refine And.intro ?_ ?_ <;> split <;> omega)) | omega), hσ_3, frσ_3, (by (try dsimp only) <;> first | assumption | omega | ((try simp (disch := omega) only [w32_of, w64_of, w8_of]) <;> first | assumption | omega | (split <;> omega) | (refine And.intro ?_ ?_ <;> split <;> omega)) | omega), (by (try dsimp only) <;> (first | (intro i j i0 i1; exact absurd i1 (by rw [sg_val eσ_1]; omega)) | exact gd | exact ds63))⟩, (by (try dsimp only) <;> first | assumption | omega | ((try simp (disch := omega) only [w32_of, w64_of, w8_of]) <;> first | assumption | omega | (split <;> omega) | (refine And.intro ?_ ?_ <;> split <;> omega)) | omega)⟩)
      · have k37 := gk (Bool.eq_false_iff.mpr c35)
        try simp (disch := omega) only [w32_of, w64_of, w8_of] at k37
        try simp (disch := omega) only [w32_of, w64_of, w8_of, decide_eq_true_eq, decide_eq_false_iff_not, Bool.not_eq_true] at c35
        have c39 := ii_kR_spots hσ_3 0
        have c40 := w32_rng (σ_3 kR_spots 0)
        refine wp_if (fun c38 => ?_) (fun c38 => ?_)
        · try simp (disch := omega) only [w32_of, w64_of, w8_of, decide_eq_true_eq, decide_eq_false_iff_not, Bool.not_eq_true] at c38
          exact wp_some (x_inr (x_inr ⟨hσ_3, frσ_3, (by (try dsimp only) <;> (first | exact gd9 | exact gd))⟩))
        · try simp (disch := omega) only [w32_of, w64_of, w8_of, decide_eq_true_eq, decide_eq_false_iff_not, Bool.not_eq_true] at c38
          refine wp_rdI (by (try dsimp only) <;> first | assumption | omega | ((try simp (disch := omega) only [w32_of, w64_of, w8_of]) <;> first | assumption | omega | (split <;> omega) | (refine And.intro ?_ ?_ <;> split <;> omega)) | omega) (by (try dsimp only) <;> first | assumption | omega | ((try simp (disch := omega) only [w32_of, w64_of, w8_of]) <;> first | assumption | omega | (split <;> omega) | (refine And.intro ?_ ?_ <;> split <;> omega)) | omega) (fun x_55 e_x_55 => ?_)
          have b_x_55 : (-1000000000) ≤ x_55 ∧ x_55 ≤ 1000000000 := by rw [e_x_55]; exact ii_kR_xs hσ_3 _
          rw [FR_at frσ_3 (c := kR_xs) (by decide)] at e_x_55
          try simp (disch := omega) only [w32_of, w64_of, w8_of] at e_x_55
          have c41 := ii_kR_xs hσ_3 k_2
          have c42 := FR_at frσ_3 (c := kR_xs) (by decide) k_2
          have c43 := ii_kR_xs hσ k_2
          have c44 := w32_rng x_55
          refine wp_waI hσ_3 b_kR_spotX (by (try dsimp only) <;> first | assumption | omega | ((try simp (disch := omega) only [w32_of, w64_of, w8_of]) <;> first | assumption | omega | (split <;> omega) | (refine And.intro ?_ ?_ <;> split <;> omega)) | omega) (by (try dsimp only) <;> first | assumption | omega | ((try simp (disch := omega) only [w32_of, w64_of, w8_of]) <;> first | assumption | omega | (split <;> omega) | (refine And.intro ?_ ?_ <;> split <;> omega)) | omega) (by (try dsimp only) <;> first | assumption | omega | ((try simp (disch := omega) only [w32_of, w64_of, w8_of]) <;> first | assumption | omega | (split <;> omega) | (refine And.intro ?_ ?_ <;> split <;> omega)) | omega) (fun σ_57 hσ_57 eσ_57 => ?_)
          try simp (disch := omega) only [w32_of, w64_of, w8_of] at eσ_57
          have flσ_57 := FR_sg eσ_57
          have frσ_57 : FR [kR_spotX, kR_spotY, kR_spots] σ σ_57 := FR_tr frσ_3 flσ_57 (by decide) (by decide)
          refine wp_rdI (by (try dsimp only) <;> first | assumption | omega | ((try simp (disch := omega) only [w32_of, w64_of, w8_of]) <;> first | assumption | omega | (split <;> omega) | (refine And.intro ?_ ?_ <;> split <;> omega)) | omega) (by (try dsimp only) <;> first | assumption | omega | ((try simp (disch := omega) only [w32_of, w64_of, w8_of]) <;> first | assumption | omega | (split <;> omega) | (refine And.intro ?_ ?_ <;> split <;> omega)) | omega) (fun x_59 e_x_59 => ?_)
          have b_x_59 : (-1000000000) ≤ x_59 ∧ x_59 ≤ 1000000000 := by rw [e_x_59]; exact ii_kR_ys hσ_57 _
          rw [FR_at frσ_57 (c := kR_ys) (by decide)] at e_x_59
          try simp (disch := omega) only [w32_of, w64_of, w8_of] at e_x_59
          have c45 := ii_kR_ys hσ_57 k_2
          have c46 := FR_at flσ_57 (c := kR_ys) (by decide) k_2
          have c47 := ii_kR_ys hσ_3 k_2
          have c48 := FR_at frσ_3 (c := kR_ys) (by decide) k_2
          have c49 := ii_kR_ys hσ k_2
          have c50 := w32_rng x_59
          have c51 := ii_kR_spots hσ_57 0
          have c52 := FR_at flσ_57 (c := kR_spots) (by decide) 0
          have c53 := w32_rng (σ_57 kR_spots 0)
          refine wp_waI hσ_57 b_kR_spotY (by (try dsimp only) <;> first | assumption | omega | ((try simp (disch := omega) only [w32_of, w64_of, w8_of]) <;> first | assumption | omega | (split <;> omega) | (refine And.intro ?_ ?_ <;> split <;> omega)) | omega) (by (try dsimp only) <;> first | assumption | omega | ((try simp (disch := omega) only [w32_of, w64_of, w8_of]) <;> first | assumption | omega | (split <;> omega) | (refine And.intro ?_ ?_ <;> split <;> omega)) | omega) (by (try dsimp only) <;> first | assumption | omega | ((try simp (disch := omega) only [w32_of, w64_of, w8_of]) <;> first | assumption | omega | (split <;> omega) | (refine And.intro ?_ ?_ <;> split <;> omega)) | omega) (fun σ_61 hσ_61 eσ_61 => ?_)
          try simp (disch := omega) only [w32_of, w64_of, w8_of] at eσ_61
          have flσ_61 := FR_sg eσ_61
          have frσ_61 : FR [kR_spotX, kR_spotY, kR_spots] σ σ_61 := FR_tr frσ_57 flσ_61 (by decide) (by decide)
          have c54 := ii_kR_spots hσ_61 0
          have c55 := FR_at flσ_61 (c := kR_spots) (by decide) 0
          refine wp_wfI hσ_61 b_kR_spots (by (try dsimp only) <;> first | assumption | omega | ((try simp (disch := omega) only [w32_of, w64_of, w8_of]) <;> first | assumption | omega | (split <;> omega) | (refine And.intro ?_ ?_ <;> split <;> omega)) | omega) (fun σ_63 hσ_63 eσ_63 => ?_)
          try simp (disch := omega) only [w32_of, w64_of, w8_of] at eσ_63
          have flσ_63 := FR_sg eσ_63
          have frσ_63 : FR [kR_spotX, kR_spotY, kR_spots] σ σ_63 := FR_tr frσ_61 flσ_63 (by decide) (by decide)
          have ds63 : DS σ_63 := DS_add hσ_3 hσ_63 gd (ii_kR_spots hσ_3 0).1 (by simp (disch := first | decide | omega) only [eσ_63, eσ_61, eσ_57, sg_at, sg_nc, sg_ni]) (fun s hs => by simp (disch := first | decide | omega) only [eσ_63, eσ_61, eσ_57, sg_at, sg_nc, sg_ni]; exact ⟨trivial, trivial⟩) (fun s a b => by have z := gk (by simp_all) s a b; rw [show σ_63 kR_spotX (σ_3 kR_spots 0) = σ kR_xs k_2 by simp (disch := first | decide | omega) only [eσ_63, eσ_61, eσ_57, sg_at, sg_nc, sg_ni]; omega, show σ_63 kR_spotY (σ_3 kR_spots 0) = σ kR_ys k_2 by simp (disch := first | decide | omega) only [eσ_63, eσ_61, eσ_57, sg_at, sg_nc, sg_ni]; omega]; exact z)
          exact wp_some (x_inl ⟨⟨(by (try dsimp only) <;> first | assumption | omega | ((try simp (disch := omega) only [w32_of, w64_of, w8_of]) <;> first | assumption | omega | (split <;> omega) | (refine And.intro ?_ ?_ <;> split <;> omega)) | omega), hσ_63, frσ_63, (by (try dsimp only) <;> first | assumption | omega | ((try simp (disch := omega) only [w32_of, w64_of, w8_of]) <;> first | assumption | omega | (split <;> omega) | (refine And.intro ?_ ?_ <;> split <;> omega)) | omega), (by (try dsimp only) <;> (first | (intro i j i0 i1; exact absurd i1 (by rw [sg_val eσ_1]; omega)) | exact gd | exact ds63))⟩, (by (try dsimp only) <;> first | assumption | omega | ((try simp (disch := omega) only [w32_of, w64_of, w8_of]) <;> first | assumption | omega | (split <;> omega) | (refine And.intro ?_ ?_ <;> split <;> omega)) | omega)⟩)
    · try simp (disch := omega) only [w32_of, w64_of, w8_of, decide_eq_true_eq, decide_eq_false_iff_not, Bool.not_eq_true] at c8
      exact wp_some (x_inr (x_inl ⟨(by (try dsimp only) <;> first | assumption | omega | ((try simp (disch := omega) only [w32_of, w64_of, w8_of]) <;> first | assumption | omega | (split <;> omega) | (refine And.intro ?_ ?_ <;> split <;> omega)) | omega), hσ_3, frσ_3, (by (try dsimp only) <;> (exact gd))⟩))
  rintro ⟨k_67, σ_68⟩ y57
  try dsimp only at y57 ⊢
  obtain ⟨g56, hσ_68, frσ_68, gd9⟩ := y57
  exact wp_some ⟨hσ_68, frσ_68, (by (try dsimp only) <;> (first | exact gd9 | exact gd))⟩
theorem v_dotSpot {σ : SG} {k_0 : Int} (hσ : II σ) (qk_0 : 0 ≤ k_0 ∧ k_0 ≤ 1023) (w0 : (σ kR_pointMany 32) ≤ 2047) : wp_ (fR_dotSpot σ k_0) (fun zz_ => II zz_ ∧ FR [kR_pointMany, kR_xs, kR_ys] σ zz_ ∧ NF σ zz_ ∧ ((zz_ kR_pointMany 32) = (σ kR_pointMany 32) + 1)) := by
  unfold fR_dotSpot
  have c1 := ii_kR_pointMany hσ 32
  have c2 := w32_rng k_0
  refine wp_rdI (by (try dsimp only) <;> first | assumption | omega | ((try simp (disch := omega) only [w32_of, w64_of, w8_of]) <;> first | assumption | omega | (split <;> omega) | (refine And.intro ?_ ?_ <;> split <;> omega)) | omega) (by (try dsimp only) <;> first | assumption | omega | ((try simp (disch := omega) only [w32_of, w64_of, w8_of]) <;> first | assumption | omega | (split <;> omega) | (refine And.intro ?_ ?_ <;> split <;> omega)) | omega) (fun x_1 e_x_1 => ?_)
  have b_x_1 : (-1000000000) ≤ x_1 ∧ x_1 ≤ 1000000000 := by rw [e_x_1]; exact ii_kR_spotX hσ _
  try simp (disch := omega) only [w32_of, w64_of, w8_of] at e_x_1
  have c3 := ii_kR_spotX hσ k_0
  refine wp_rdI (by (try dsimp only) <;> first | assumption | omega | ((try simp (disch := omega) only [w32_of, w64_of, w8_of]) <;> first | assumption | omega | (split <;> omega) | (refine And.intro ?_ ?_ <;> split <;> omega)) | omega) (by (try dsimp only) <;> first | assumption | omega | ((try simp (disch := omega) only [w32_of, w64_of, w8_of]) <;> first | assumption | omega | (split <;> omega) | (refine And.intro ?_ ?_ <;> split <;> omega)) | omega) (fun x_3 e_x_3 => ?_)
  have b_x_3 : (-1000000000) ≤ x_3 ∧ x_3 ≤ 1000000000 := by rw [e_x_3]; exact ii_kR_spotY hσ _
  try simp (disch := omega) only [w32_of, w64_of, w8_of] at e_x_3
  have c4 := ii_kR_spotY hσ k_0
  refine wp_bd (v_dot (σ := σ) (x_0 := x_1) (y_0 := x_3) hσ (by (try dsimp only) <;> first | assumption | omega | ((try simp (disch := omega) only [w32_of, w64_of, w8_of]) <;> first | assumption | omega | (split <;> omega) | (refine And.intro ?_ ?_ <;> split <;> omega)) | omega) (by (try dsimp only) <;> first | assumption | omega | ((try simp (disch := omega) only [w32_of, w64_of, w8_of]) <;> first | assumption | omega | (split <;> omega) | (refine And.intro ?_ ?_ <;> split <;> omega)) | omega) (by (try dsimp only) <;> first | assumption | omega | ((try simp (disch := omega) only [w32_of, w64_of, w8_of]) <;> first | assumption | omega | (split <;> omega) | (refine And.intro ?_ ?_ <;> split <;> omega)) | omega) (by (try dsimp only) <;> first | assumption | omega | ((try simp (disch := omega) only [w32_of, w64_of, w8_of]) <;> first | assumption | omega | (split <;> omega) | (refine And.intro ?_ ?_ <;> split <;> omega)) | omega) (by (try dsimp only) <;> first | assumption | omega | ((try simp (disch := omega) only [w32_of, w64_of, w8_of]) <;> first | assumption | omega | (split <;> omega) | (refine And.intro ?_ ?_ <;> split <;> omega)) | omega)) ?_
  rintro σ_6 - ⟨hσ_6, flσ_6, ngσ_6, g5⟩
  have frσ_6 : FR [kR_pointMany, kR_xs, kR_ys] σ σ_6 := FR_le flσ_6 (by decide)
  have nfσ_6 : NF σ σ_6 := NF_tr (NF_refl _) ngσ_6
  have c6 := ii_kR_pointMany hσ_6 32
  try simp (disch := omega) only [w32_of, w64_of, w8_of] at g5
  exact wp_some ⟨hσ_6, frσ_6, nfσ_6, (by (try dsimp only) <;> first | assumption | omega | ((try simp (disch := omega) only [w32_of, w64_of, w8_of]) <;> first | assumption | omega | (split <;> omega) | (refine And.intro ?_ ?_ <;> split <;> omega)) | omega)⟩
theorem s_R_wraps {σ : SG} (hσ : II σ) : wp_ (fR_wraps σ) (fun zz_ => II zz_ ∧ FR [kR_hullMany, kR_hullSpot] σ zz_) := by
  unfold fR_wraps
  refine wp_wfI hσ b_kR_hullMany (by (try dsimp only) <;> first | assumption | omega | ((try simp (disch := omega) only [w32_of, w64_of, w8_of]) <;> first | assumption | omega | (split <;> omega) | (refine And.intro ?_ ?_ <;> split <;> omega)) | omega) (fun σ_1 hσ_1 eσ_1 => ?_)
  try simp (disch := omega) only [w32_of, w64_of, w8_of] at eσ_1
  have flσ_1 := FR_sg eσ_1
  have frσ_1 : FR [kR_hullMany, kR_hullSpot] σ σ_1 := FR_le flσ_1 (by decide)
  have c2 := ii_kR_spots hσ_1 0
  have c3 := FR_at flσ_1 (c := kR_spots) (by decide) 0
  have c4 := ii_kR_spots hσ 0
  have c5 := w32_rng (σ_1 kR_spots 0)
  refine wp_if (fun c1 => ?_) (fun c1 => ?_)
  · try simp (disch := omega) only [w32_of, w64_of, w8_of, decide_eq_true_eq, decide_eq_false_iff_not, Bool.not_eq_true] at c1
    exact wp_some ⟨hσ_1, frσ_1⟩
  · try simp (disch := omega) only [w32_of, w64_of, w8_of, decide_eq_true_eq, decide_eq_false_iff_not, Bool.not_eq_true] at c1
    refine wp_bd (s_R_leastSpot (σ := σ_1) hσ_1) ?_
    rintro x_4 - g6
    try simp (disch := omega) only [w32_of, w64_of, w8_of] at g6
    refine wp_bx (P := fun rr_ => II rr_.2.2 ∧ FR [kR_hullMany, kR_hullSpot] σ rr_.2.2) ?_ ?_
    · have c7 := ii_kR_hullMany hσ_1 0
      have c8 := sg_val eσ_1
      refine wp_whl (fun ss_ => II ss_.2.2 ∧ FR [kR_hullMany, kR_hullSpot] σ ss_.2.2 ∧ (0 ≤ ss_.2.1 ∧ ss_.2.1 ≤ σ kR_spots 0) ∧ (0 ≤ ss_.1 ∧ ss_.1 ≤ 1023) ∧ (ss_.2.2 kR_hullMany 0 = ss_.2.1)) (fun ss_ => (2000 - ss_.2.1).toNat) ⟨hσ_1, frσ_1, (by (try dsimp only) <;> first | assumption | omega | ((try simp (disch := omega) only [w32_of, w64_of, w8_of]) <;> first | assumption | omega | (split <;> omega) | (refine And.intro ?_ ?_ <;> split <;> omega)) | omega), (by (try dsimp only) <;> first | assumption | omega | ((try simp (disch := omega) only [w32_of, w64_of, w8_of]) <;> first | assumption | omega | (split <;> omega) | (refine And.intro ?_ ?_ <;> split <;> omega)) | omega), (by (try dsimp only) <;> first | assumption | omega | ((try simp (disch := omega) only [w32_of, w64_of, w8_of]) <;> first | assumption | omega | (split <;> omega) | (refine And.intro ?_ ?_ <;> split <;> omega)) | omega)⟩ ?_
      rintro ⟨here_5, round_6, σ_7⟩ y12
      try dsimp only at y12 ⊢
      obtain ⟨hσ_7, frσ_7, g9, g10, g11⟩ := y12
      have c14 := w32_rng round_6
      have c15 := ii_kR_spots hσ_7 0
      have c16 := FR_at frσ_7 (c := kR_spots) (by decide) 0
      have c17 := w32_rng (σ_7 kR_spots 0)
      refine wp_if (fun c13 => ?_) (fun c13 => ?_)
      · try simp (disch := omega) only [w32_of, w64_of, w8_of, decide_eq_true_eq, decide_eq_false_iff_not, Bool.not_eq_true] at c13
        have c18 := ii_kR_hullMany hσ_7 0
        have c19 := w32_rng (σ_7 kR_hullMany 0)
        refine wp_waI hσ_7 b_kR_hullSpot (by (try dsimp only) <;> first | assumption | omega | ((try simp (disch := omega) only [w32_of, w64_of, w8_of]) <;> first | assumption | omega | (split <;> omega) | (refine And.intro ?_ ?_ <;> split <;> omega)) | omega) (by (try dsimp only) <;> first | assumption | omega | ((try simp (disch := omega) only [w32_of, w64_of, w8_of]) <;> first | assumption | omega | (split <;> omega) | (refine And.intro ?_ ?_ <;> split <;> omega)) | omega) (by (try dsimp only) <;> first | assumption | omega | ((try simp (disch := omega) only [w32_of, w64_of, w8_of]) <;> first | assumption | omega | (split <;> omega) | (refine And.intro ?_ ?_ <;> split <;> omega)) | omega) (fun σ_16 hσ_16 eσ_16 => ?_)
        try simp (disch := omega) only [w32_of, w64_of, w8_of] at eσ_16
        have flσ_16 := FR_sg eσ_16
        have frσ_16 : FR [kR_hullMany, kR_hullSpot] σ σ_16 := FR_tr frσ_7 flσ_16 (by decide) (by decide)
        have c20 := ii_kR_hullMany hσ_16 0
        have c21 := FR_at flσ_16 (c := kR_hullMany) (by decide) 0
        refine wp_wfI hσ_16 b_kR_hullMany (by (try dsimp only) <;> first | assumption | omega | ((try simp (disch := omega) only [w32_of, w64_of, w8_of]) <;> first | assumption | omega | (split <;> omega) | (refine And.intro ?_ ?_ <;> split <;> omega)) | omega) (fun σ_18 hσ_18 eσ_18 => ?_)
        try simp (disch := omega) only [w32_of, w64_of, w8_of] at eσ_18
        have flσ_18 := FR_sg eσ_18
        have frσ_18 : FR [kR_hullMany, kR_hullSpot] σ σ_18 := FR_tr frσ_16 flσ_18 (by decide) (by decide)
        refine wp_bd (P := fun rr_ => ((-1) ≤ rr_ ∧ rr_ ≤ 1023) ∧ (0 ≤ rr_)) ?_ ?_
        · have c23 := ii_kR_spots hσ_18 0
          have c24 := FR_at flσ_18 (c := kR_spots) (by decide) 0
          have c25 := ii_kR_spots hσ_16 0
          have c26 := FR_at flσ_16 (c := kR_spots) (by decide) 0
          have c27 := w32_rng (σ_18 kR_spots 0)
          refine wp_if (fun c22 => ?_) (fun c22 => ?_)
          · try simp (disch := omega) only [w32_of, w64_of, w8_of, decide_eq_true_eq, decide_eq_false_iff_not, Bool.not_eq_true] at c22
            refine wp_bd (v_hullBehindF (σ := σ_18) (a_0 := here_5) (nearest_0 := false) hσ_18 (by (try dsimp only) <;> first | assumption | omega | ((try simp (disch := omega) only [w32_of, w64_of, w8_of]) <;> first | assumption | omega | (split <;> omega) | (refine And.intro ?_ ?_ <;> split <;> omega)) | omega) (by (try dsimp only) <;> first | assumption | omega | ((try simp (disch := omega) only [w32_of, w64_of, w8_of]) <;> first | assumption | omega | (split <;> omega) | (refine And.intro ?_ ?_ <;> split <;> omega)) | omega) (by (try dsimp only) <;> first | assumption | omega | ((try simp (disch := omega) only [w32_of, w64_of, w8_of]) <;> first | assumption | omega | (split <;> omega) | (refine And.intro ?_ ?_ <;> split <;> omega)) | omega)) ?_
            rintro x_23 - ⟨g28, g29⟩
            try simp (disch := omega) only [w32_of, w64_of, w8_of] at g28
            try simp (disch := omega) only [w32_of, w64_of, w8_of] at g29
            exact wp_some ⟨(by (try dsimp only) <;> first | assumption | omega | ((try simp (disch := omega) only [w32_of, w64_of, w8_of]) <;> first | assumption | omega | (split <;> omega) | (refine And.intro ?_ ?_ <;> split <;> omega)) | omega), (by (try dsimp only) <;> first | assumption | omega | ((try simp (disch := omega) only [w32_of, w64_of, w8_of]) <;> first | assumption | omega | (split <;> omega) | (refine And.intro ?_ ?_ <;> split <;> omega)) | omega)⟩
          · try simp (disch := omega) only [w32_of, w64_of, w8_of, decide_eq_true_eq, decide_eq_false_iff_not, Bool.not_eq_true] at c22
            exact wp_some ⟨(by (try dsimp only) <;> first | assumption | omega | ((try simp (disch := omega) only [w32_of, w64_of, w8_of]) <;> first | assumption | omega | (split <;> omega) | (refine And.intro ?_ ?_ <;> split <;> omega)) | omega), (by (try dsimp only) <;> first | assumption | omega | ((try simp (disch := omega) only [w32_of, w64_of, w8_of]) <;> first | assumption | omega | (split <;> omega) | (refine And.intro ?_ ?_ <;> split <;> omega)) | omega)⟩
        rintro x_26 _ ⟨g30, g31⟩
        have c33 := w32_rng x_26
        have c34 := w32_rng x_4
        refine wp_if (fun c32 => ?_) (fun c32 => ?_)
        · try simp (disch := omega) only [w32_of, w64_of, w8_of, decide_eq_true_eq, decide_eq_false_iff_not, Bool.not_eq_true] at c32
          exact wp_some (x_inr (x_inr ⟨hσ_18, frσ_18⟩))
        · try simp (disch := omega) only [w32_of, w64_of, w8_of, decide_eq_true_eq, decide_eq_false_iff_not, Bool.not_eq_true] at c32
          have c35 := ii_kR_hullMany hσ_18 0
          have c36 := sg_val eσ_18
          exact wp_some (x_inl ⟨⟨hσ_18, frσ_18, (by (try dsimp only) <;> first | assumption | omega | ((try simp (disch := omega) only [w32_of, w64_of, w8_of]) <;> first | assumption | omega | (split <;> omega) | (refine And.intro ?_ ?_ <;> split <;> omega)) | omega), (by (try dsimp only) <;> first | assumption | omega | ((try simp (disch := omega) only [w32_of, w64_of, w8_of]) <;> first | assumption | omega | (split <;> omega) | (refine And.intro ?_ ?_ <;> split <;> omega)) | omega), (by (try dsimp only) <;> first | assumption | omega | ((try simp (disch := omega) only [w32_of, w64_of, w8_of]) <;> first | assumption | omega | (split <;> omega) | (refine And.intro ?_ ?_ <;> split <;> omega)) | omega)⟩, (by (try dsimp only) <;> first | assumption | omega | ((try simp (disch := omega) only [w32_of, w64_of, w8_of]) <;> first | assumption | omega | (split <;> omega) | (refine And.intro ?_ ?_ <;> split <;> omega)) | omega)⟩)
      · try simp (disch := omega) only [w32_of, w64_of, w8_of, decide_eq_true_eq, decide_eq_false_iff_not, Bool.not_eq_true] at c13
        exact wp_some (x_inr (x_inl ⟨hσ_7, frσ_7⟩))
    rintro ⟨here_34, round_35, σ_36⟩ y37
    try dsimp only at y37 ⊢
    obtain ⟨hσ_36, frσ_36⟩ := y37
    exact wp_some ⟨hσ_36, frσ_36⟩
theorem s_R_hull {σ : SG} {slot_0 : Int} {to_0 : Int} (hσ : II σ) (qslot_0 : (-2147483648) ≤ slot_0 ∧ slot_0 ≤ 2147483647) (qto_0 : (-2147483648) ≤ to_0 ∧ to_0 ≤ 2147483647) (w0 : SHs σ) : wp_ (fR_hull σ slot_0 to_0) (fun zz_ => II zz_.2 ∧ FR [kR_hullMany, kR_hullSpot, kR_plan, kR_planMany, kR_pointMany, kR_spotX, kR_spotY, kR_spots, kR_thrown, kR_xs, kR_ys] σ zz_.2 ∧ (SHs zz_.2)) := by
  unfold fR_hull
  refine wp_wfI hσ b_kR_thrown (by (try dsimp only) <;> first | assumption | omega | ((try simp (disch := omega) only [w32_of, w64_of, w8_of]) <;> first | assumption | omega | (split <;> omega) | (refine And.intro ?_ ?_ <;> split <;> omega)) | omega) (fun σ_1 hσ_1 eσ_1 => ?_)
  try simp (disch := omega) only [w32_of, w64_of, w8_of] at eσ_1
  have flσ_1 := FR_sg eσ_1
  have frσ_1 : FR [kR_hullMany, kR_hullSpot, kR_plan, kR_planMany, kR_pointMany, kR_spotX, kR_spotY, kR_spots, kR_thrown, kR_xs, kR_ys] σ σ_1 := FR_le flσ_1 (by decide)
  have c3 := ii_kR_thrown hσ_1 0
  have c4 := sg_val eσ_1
  refine wp_fails hσ_1 (by (try dsimp only) <;> first | assumption | omega | ((try simp (disch := omega) only [w32_of, w64_of, w8_of]) <;> first | assumption | omega | (split <;> omega) | (refine And.intro ?_ ?_ <;> split <;> omega)) | omega) (by decide) (fun σ_45 hσ_45 flσ_45 e1 e2 => ?_)
  try dsimp only
  have frσ_45 : FR [kR_hullMany, kR_hullSpot, kR_plan, kR_planMany, kR_pointMany, kR_spotX, kR_spotY, kR_spots, kR_thrown, kR_xs, kR_ys] σ σ_45 := FR_tr frσ_1 flσ_45 (by decide) (by decide)
  have s45 : SHs σ_45 := SHs_f flσ_45 (by decide) (SHs_f flσ_1 (by decide) w0)
  refine wp_if (fun c5 => ?_) (fun c5 => ?_)
  · have k6 := e1 c5
    try simp (disch := omega) only [w32_of, w64_of, w8_of, decide_eq_true_eq, decide_eq_false_iff_not, Bool.not_eq_true, fR_isSlot] at c5
    exact wp_some ⟨hσ_45, frσ_45, (by (try dsimp only) <;> (first | exact s135 | exact s67 | exact s55 | exact s45))⟩
  · have k7 := e2 c5
    try simp (disch := omega) only [w32_of, w64_of, w8_of, decide_eq_true_eq, decide_eq_false_iff_not, Bool.not_eq_true, fR_isSlot] at c5
    refine wp_bdk ?_
    refine wp_bd (v_has (σ := σ_45) (slot_0 := slot_0) hσ_45 (by (try dsimp only) <;> first | assumption | omega | ((try simp (disch := omega) only [w32_of, w64_of, w8_of]) <;> first | assumption | omega | (split <;> omega) | (refine And.intro ?_ ?_ <;> split <;> omega)) | omega)) ?_
    rintro x_49 - g8
    have c9 := ii_kR_planMany hσ_45 slot_0
    have c10 := FR_at flσ_45 (c := kR_planMany) (by decide) slot_0
    have c11 := ii_kR_planMany hσ_1 slot_0
    have c12 := FR_at flσ_1 (c := kR_planMany) (by decide) slot_0
    have c13 := ii_kR_planMany hσ slot_0
    try simp (disch := omega) only [w32_of, w64_of, w8_of] at g8
    refine wp_if (fun c14 => ?_) (fun c14 => ?_)
    · have k15 := g8.mp c14
      try simp (disch := omega) only [w32_of, w64_of, w8_of] at k15
      try simp (disch := omega) only [w32_of, w64_of, w8_of, decide_eq_true_eq, decide_eq_false_iff_not, Bool.not_eq_true] at c14
      refine wp_somek ?_
      try dsimp only
      have c18 := ii_kR_thrown hσ_45 0
      refine wp_fails hσ_45 (by (try dsimp only) <;> first | assumption | omega | ((try simp (disch := omega) only [w32_of, w64_of, w8_of]) <;> first | assumption | omega | (split <;> omega) | (refine And.intro ?_ ?_ <;> split <;> omega)) | omega) (by decide) (fun σ_55 hσ_55 flσ_55 e16 e17 => ?_)
      try dsimp only
      have frσ_55 : FR [kR_hullMany, kR_hullSpot, kR_plan, kR_planMany, kR_pointMany, kR_spotX, kR_spotY, kR_spots, kR_thrown, kR_xs, kR_ys] σ σ_55 := FR_tr frσ_45 flσ_55 (by decide) (by decide)
      have k19 := e17 (by decide)
      have s55 : SHs σ_55 := SHs_f flσ_55 (by decide) s45
      refine wp_ft ?_
      refine wp_bd (P := fun rr_ => II rr_.2 ∧ FR [kR_hullMany, kR_hullSpot, kR_plan, kR_planMany, kR_pointMany, kR_spotX, kR_spotY, kR_spots, kR_thrown, kR_xs, kR_ys] σ rr_.2 ∧ (SHs rr_.2) ∧ (rr_.2 kR_thrown 0 = 0)) ?_ ?_
      · refine wp_bd (v_gatherSpots (σ := σ_55) (slot_0 := slot_0) hσ_55 (by (try dsimp only) <;> first | assumption | omega | ((try simp (disch := omega) only [w32_of, w64_of, w8_of]) <;> first | assumption | omega | (split <;> omega) | (refine And.intro ?_ ?_ <;> split <;> omega)) | omega)) ?_
        rintro ⟨x_60, σ_59⟩ - y20
        try dsimp only at y20 ⊢
        obtain ⟨hσ_59, flσ_59, gd⟩ := y20
        have frσ_59 : FR [kR_hullMany, kR_hullSpot, kR_plan, kR_planMany, kR_pointMany, kR_spotX, kR_spotY, kR_spots, kR_thrown, kR_xs, kR_ys] σ σ_59 := FR_tr frσ_55 flσ_59 (by decide) (by decide)
        try simp (disch := omega) only [w32_of, w64_of, w8_of] at gd
        refine wp_if (fun c21 => ?_) (fun c21 => ?_)
        · try simp (disch := omega) only [w32_of, w64_of, w8_of, decide_eq_true_eq, decide_eq_false_iff_not, Bool.not_eq_true] at c21
          have c22 := ii_kR_thrown hσ_59 0
          have c23 := FR_at flσ_59 (c := kR_thrown) (by decide) 0
          have c24 := ii_kR_thrown hσ_55 0
          exact wp_some ⟨hσ_59, frσ_59, (by (try dsimp only) <;> (exact SHs_f flσ_59 (by decide) s55)), (by (try dsimp only) <;> (exact (FR_at flσ_59 (c := kR_thrown) (by decide) 0).trans (by assumption)))⟩
        · try simp (disch := omega) only [w32_of, w64_of, w8_of, decide_eq_true_eq, decide_eq_false_iff_not, Bool.not_eq_true] at c21
          have c25 := ii_kR_thrown hσ_59 0
          have c26 := FR_at flσ_59 (c := kR_thrown) (by decide) 0
          have c27 := ii_kR_thrown hσ_55 0
          exact wp_some ⟨hσ_59, frσ_59, (by (try dsimp only) <;> (exact SHs_f flσ_59 (by decide) s55)), (by (try dsimp only) <;> (exact (FR_at flσ_59 (c := kR_thrown) (by decide) 0).trans (by assumption)))⟩
      rintro ⟨x_64, σ_65⟩ _ y28
      try dsimp only at y28 ⊢
      obtain ⟨hσ_65, frσ_65, s65, t65⟩ := y28
      have c31 := ii_kR_thrown hσ_65 0
      refine wp_fails hσ_65 (by (try dsimp only) <;> first | assumption | omega | ((try simp (disch := omega) only [w32_of, w64_of, w8_of]) <;> first | assumption | omega | (split <;> omega) | (refine And.intro ?_ ?_ <;> split <;> omega)) | omega) (by decide) (fun σ_67 hσ_67 flσ_67 e29 e30 => ?_)
      try dsimp only
      have frσ_67 : FR [kR_hullMany, kR_hullSpot, kR_plan, kR_planMany, kR_pointMany, kR_spotX, kR_spotY, kR_spots, kR_thrown, kR_xs, kR_ys] σ σ_67 := FR_tr frσ_65 flσ_67 (by decide) (by decide)
      have s67 : SHs σ_67 := SHs_f flσ_67 (by decide) s65
      refine wp_if (fun c32 => ?_) (fun c32 => ?_)
      · have k33 := e29 c32
        try simp (disch := omega) only [w32_of, w64_of, w8_of, decide_eq_true_eq, decide_eq_false_iff_not, Bool.not_eq_true] at c32
        exact wp_some ⟨hσ_67, frσ_67, (by (try dsimp only) <;> (first | exact s135 | exact s67 | exact s55 | exact s45))⟩
      · have k34 := e30 c32
        try simp (disch := omega) only [w32_of, w64_of, w8_of, decide_eq_true_eq, decide_eq_false_iff_not, Bool.not_eq_true] at c32
        refine wp_bd (s_R_wraps (σ := σ_67) hσ_67) ?_
        rintro σ_71 - ⟨hσ_71, flσ_71⟩
        have frσ_71 : FR [kR_hullMany, kR_hullSpot, kR_plan, kR_planMany, kR_pointMany, kR_spotX, kR_spotY, kR_spots, kR_thrown, kR_xs, kR_ys] σ σ_71 := FR_tr frσ_67 flσ_71 (by decide) (by decide)
        have s71 : SHs σ_71 := SHs_f flσ_71 (by decide) s67
        have b71 := ii_kR_hullMany hσ_71 0
        refine wp_bd (v_clear (σ := σ_71) (slot_0 := 32) hσ_71 (by (try dsimp only) <;> first | assumption | omega | ((try simp (disch := omega) only [w32_of, w64_of, w8_of]) <;> first | assumption | omega | (split <;> omega) | (refine And.intro ?_ ?_ <;> split <;> omega)) | omega)) ?_
        rintro σ_73 - ⟨hσ_73, flσ_73, gc1, gc2, gc3⟩
        have frσ_73 : FR [kR_hullMany, kR_hullSpot, kR_plan, kR_planMany, kR_pointMany, kR_spotX, kR_spotY, kR_spots, kR_thrown, kR_xs, kR_ys] σ σ_73 := FR_tr frσ_71 flσ_73 (by decide) (by decide)
        have c35 := ii_kR_planMany hσ_73 32
        try simp (disch := omega) only [w32_of, w64_of, w8_of] at gc1
        have c36 := ii_kR_pointMany hσ_73 32
        try simp (disch := omega) only [w32_of, w64_of, w8_of] at gc2
        try simp (disch := omega) only [w32_of, w64_of, w8_of] at gc3
        have h73 : σ_73 kR_hullMany 0 = σ_71 kR_hullMany 0 := FR_at flσ_73 (c := kR_hullMany) (by decide) 0
        have n73 : NF σ_71 σ_73 := ⟨fun i _ => ⟨FR_at flσ_73 (by decide) i, FR_at flσ_73 (by decide) i, FR_at flσ_73 (by decide) i⟩, gc3⟩
        have c37 := ii_kR_hullMany hσ_73 0
        have c38 := FR_at flσ_73 (c := kR_hullMany) (by decide) 0
        have c39 := ii_kR_hullMany hσ_71 0
        have c40 := w32_rng (σ_73 kR_hullMany 0)
        refine wp_bd (v_tell (σ := σ_73) (v_0 := (if ((w32 (σ_73 kR_hullMany 0)) = 0) then 7 else (if (2 < (w32 (σ_73 kR_hullMany 0))) then 3 else (σ_73 kR_hullMany 0)))) hσ_73 (by (try dsimp only) <;> first | assumption | omega | ((try simp (disch := omega) only [w32_of, w64_of, w8_of]) <;> first | assumption | omega | (split <;> omega) | (refine And.intro ?_ ?_ <;> split <;> omega)) | omega)) ?_
        rintro σ_78 - ⟨hσ_78, flσ_78, ngσ_78, t1, t2, t3⟩
        have frσ_78 : FR [kR_hullMany, kR_hullSpot, kR_plan, kR_planMany, kR_pointMany, kR_spotX, kR_spotY, kR_spots, kR_thrown, kR_xs, kR_ys] σ σ_78 := FR_tr frσ_73 flσ_78 (by decide) (by decide)
        have c41 := ii_kR_planMany hσ_78 32
        try simp (disch := omega) only [w32_of, w64_of, w8_of] at t1
        try simp (disch := omega) only [w32_of, w64_of, w8_of] at t2
        try simp (disch := omega) only [w32_of, w64_of, w8_of] at t3
        have a1 := t1
        have a2 := t2
        have h78 : σ_78 kR_hullMany 0 = σ_71 kR_hullMany 0 := (FR_at flσ_78 (c := kR_hullMany) (by decide) 0).trans h73
        rw [gc1] at a1 a2
        rw [h73] at a2
        (try simp (disch := omega) only [w32_of, Int.add_zero] at a2)
        have c42 := ii_kR_hullMany hσ_78 0
        have c43 := FR_at flσ_78 (c := kR_hullMany) (by decide) 0
        have c44 := w32_rng (σ_78 kR_hullMany 0)
        refine wp_bd (v_tell (σ := σ_78) (v_0 := (if (2 < (w32 (σ_78 kR_hullMany 0))) then 1 else (σ_78 kR_hullMany 0))) hσ_78 (by (try dsimp only) <;> first | assumption | omega | ((try simp (disch := omega) only [w32_of, w64_of, w8_of]) <;> first | assumption | omega | (split <;> omega) | (refine And.intro ?_ ?_ <;> split <;> omega)) | omega)) ?_
        rintro σ_81 - ⟨hσ_81, flσ_81, ngσ_81, t1, t2, t3⟩
        have frσ_81 : FR [kR_hullMany, kR_hullSpot, kR_plan, kR_planMany, kR_pointMany, kR_spotX, kR_spotY, kR_spots, kR_thrown, kR_xs, kR_ys] σ σ_81 := FR_tr frσ_78 flσ_81 (by decide) (by decide)
        have c45 := ii_kR_planMany hσ_81 32
        try simp (disch := omega) only [w32_of, w64_of, w8_of] at t1
        try simp (disch := omega) only [w32_of, w64_of, w8_of] at t2
        try simp (disch := omega) only [w32_of, w64_of, w8_of] at t3
        have b1 := t1
        have b2 := t2
        have h81 : σ_81 kR_hullMany 0 = σ_71 kR_hullMany 0 := (FR_at flσ_81 (c := kR_hullMany) (by decide) 0).trans h78
        rw [h78] at b2
        (try simp (disch := omega) only [w32_of] at b2)
        have n81 : NF σ_71 σ_81 := NF_tr (NF_tr n73 ngσ_78) ngσ_81
        have q81 : σ_81 kR_pointMany 32 = 0 := (FR_at flσ_81 (c := kR_pointMany) (by decide) 32).trans ((FR_at flσ_78 (c := kR_pointMany) (by decide) 32).trans gc2)
        have k81 : σ_81 kR_plan 65536 = if σ_71 kR_hullMany 0 = 0 then 7 else if 2 < σ_71 kR_hullMany 0 then 3 else σ_71 kR_hullMany 0 := by
          rw [t3 _ (by omega)]; exact a2
        have c81 : σ_81 kR_plan 65537 = if 2 < σ_71 kR_hullMany 0 then 1 else σ_71 kR_hullMany 0 := by
          rw [show (65537 : Int) = 65536 + σ_78 kR_planMany 32 by omega]; exact b2
        refine wp_bd (P := fun rr_ => II rr_ ∧ FR [kR_hullMany, kR_hullSpot, kR_plan, kR_planMany, kR_pointMany, kR_spotX, kR_spotY, kR_spots, kR_thrown, kR_xs, kR_ys] σ rr_ ∧ (rr_ kR_hullMany 0 = σ_71 kR_hullMany 0) ∧ (NF σ_71 rr_) ∧ (2 < σ_71 kR_hullMany 0 → rr_ kR_planMany 32 = 3 ∧ rr_ kR_plan 65538 = σ_71 kR_hullMany 0 + 1) ∧ (¬ 2 < σ_71 kR_hullMany 0 → rr_ kR_planMany 32 = 2) ∧ (rr_ kR_plan 65536 = if σ_71 kR_hullMany 0 = 0 then 7 else if 2 < σ_71 kR_hullMany 0 then 3 else σ_71 kR_hullMany 0) ∧ (rr_ kR_plan 65537 = if 2 < σ_71 kR_hullMany 0 then 1 else σ_71 kR_hullMany 0) ∧ (rr_ kR_pointMany 32 = 0)) ?_ ?_
        · have c47 := ii_kR_hullMany hσ_81 0
          have c48 := FR_at flσ_81 (c := kR_hullMany) (by decide) 0
          have c49 := w32_rng (σ_81 kR_hullMany 0)
          refine wp_if (fun c46 => ?_) (fun c46 => ?_)
          · try simp (disch := omega) only [w32_of, w64_of, w8_of, decide_eq_true_eq, decide_eq_false_iff_not, Bool.not_eq_true] at c46
            refine wp_bd (v_tell (σ := σ_81) (v_0 := ((σ_81 kR_hullMany 0) + 1)) hσ_81 (by (try dsimp only) <;> first | assumption | omega | ((try simp (disch := omega) only [w32_of, w64_of, w8_of]) <;> first | assumption | omega | (split <;> omega) | (refine And.intro ?_ ?_ <;> split <;> omega)) | omega)) ?_
            rintro σ_88 - ⟨hσ_88, flσ_88, ngσ_88, t1, t2, t3⟩
            have frσ_88 : FR [kR_hullMany, kR_hullSpot, kR_plan, kR_planMany, kR_pointMany, kR_spotX, kR_spotY, kR_spots, kR_thrown, kR_xs, kR_ys] σ σ_88 := FR_tr frσ_81 flσ_88 (by decide) (by decide)
            have c50 := ii_kR_planMany hσ_88 32
            try simp (disch := omega) only [w32_of, w64_of, w8_of] at t1
            try simp (disch := omega) only [w32_of, w64_of, w8_of] at t2
            try simp (disch := omega) only [w32_of, w64_of, w8_of] at t3
            have c51 := ii_kR_hullMany hσ_88 0
            have c52 := FR_at flσ_88 (c := kR_hullMany) (by decide) 0
            have c53 := ii_kR_pointMany hσ_88 32
            have c54 := FR_at flσ_88 (c := kR_pointMany) (by decide) 32
            have c55 := ii_kR_pointMany hσ_81 32
            have c56 := FR_at flσ_81 (c := kR_pointMany) (by decide) 32
            have c57 := ii_kR_pointMany hσ_78 32
            have c58 := FR_at flσ_78 (c := kR_pointMany) (by decide) 32
            exact wp_some ⟨hσ_88, frσ_88, (by (try dsimp only) <;> first | assumption | omega | ((try simp (disch := omega) only [w32_of, w64_of, w8_of]) <;> first | assumption | omega | (split <;> omega) | (refine And.intro ?_ ?_ <;> split <;> omega)) | omega), (by (try dsimp only) <;> (first | exact NF_tr n81 ngσ_88 | exact n81)), (by (try dsimp only) <;> (intro _; exact ⟨by omega, by rw [show (65538 : Int) = 65536 + σ_81 kR_planMany 32 by omega]; omega⟩)), (by (try dsimp only) <;> first | assumption | omega | ((try simp (disch := omega) only [w32_of, w64_of, w8_of]) <;> first | assumption | omega | (split <;> omega) | (refine And.intro ?_ ?_ <;> split <;> omega)) | omega), (by (try dsimp only) <;> (first | exact k81 | (rw [t3 _ (by omega)]; exact k81))), (by (try dsimp only) <;> (first | exact c81 | (rw [t3 _ (by omega)]; exact c81))), (by (try dsimp only) <;> (first | exact q81 | exact (FR_at flσ_88 (c := kR_pointMany) (by decide) 32).trans q81))⟩
          · try simp (disch := omega) only [w32_of, w64_of, w8_of, decide_eq_true_eq, decide_eq_false_iff_not, Bool.not_eq_true] at c46
            have c59 := ii_kR_pointMany hσ_81 32
            have c60 := FR_at flσ_81 (c := kR_pointMany) (by decide) 32
            have c61 := ii_kR_pointMany hσ_78 32
            have c62 := FR_at flσ_78 (c := kR_pointMany) (by decide) 32
            exact wp_some ⟨hσ_81, frσ_81, (by (try dsimp only) <;> first | assumption | omega | ((try simp (disch := omega) only [w32_of, w64_of, w8_of]) <;> first | assumption | omega | (split <;> omega) | (refine And.intro ?_ ?_ <;> split <;> omega)) | omega), (by (try dsimp only) <;> (first | exact NF_tr n81 ngσ_88 | exact n81)), (by (try dsimp only) <;> (intro _; exact ⟨by omega, by rw [show (65538 : Int) = 65536 + σ_81 kR_planMany 32 by omega]; omega⟩)), (by (try dsimp only) <;> first | assumption | omega | ((try simp (disch := omega) only [w32_of, w64_of, w8_of]) <;> first | assumption | omega | (split <;> omega) | (refine And.intro ?_ ?_ <;> split <;> omega)) | omega), (by (try dsimp only) <;> (first | exact k81 | (rw [t3 _ (by omega)]; exact k81))), (by (try dsimp only) <;> (first | exact c81 | (rw [t3 _ (by omega)]; exact c81))), (by (try dsimp only) <;> (first | exact q81 | exact (FR_at flσ_88 (c := kR_pointMany) (by decide) 32).trans q81))⟩
        rintro σ_91 _ ⟨hσ_91, frσ_91, g63, nf91, g64, g65, k91, c91, q91⟩
        refine wp_bd (P := fun rr_ => (0 ≤ rr_.1 ∧ rr_.1 ≤ 1024) ∧ II rr_.2 ∧ FR [kR_hullMany, kR_hullSpot, kR_plan, kR_planMany, kR_pointMany, kR_spotX, kR_spotY, kR_spots, kR_thrown, kR_xs, kR_ys] σ rr_.2 ∧ (rr_.2 kR_hullMany 0 = σ_71 kR_hullMany 0) ∧ (NF σ_71 rr_.2) ∧ (rr_.2 kR_plan = σ_91 kR_plan) ∧ (rr_.2 kR_planMany = σ_91 kR_planMany) ∧ (rr_.2 kR_pointMany 32 = σ_71 kR_hullMany 0)) ?_ ?_
        · have c66 := ii_kR_hullMany hσ_91 0
          have c67 := ii_kR_pointMany hσ_91 32
          refine wp_whl (fun ss_ => II ss_.2 ∧ FR [kR_hullMany, kR_hullSpot, kR_plan, kR_planMany, kR_pointMany, kR_spotX, kR_spotY, kR_spots, kR_thrown, kR_xs, kR_ys] σ ss_.2 ∧ (0 ≤ ss_.1 ∧ ss_.1 ≤ σ_71 kR_hullMany 0) ∧ (ss_.2 kR_hullMany 0 = σ_71 kR_hullMany 0) ∧ (NF σ_71 ss_.2) ∧ (ss_.2 kR_plan = σ_91 kR_plan) ∧ (ss_.2 kR_planMany = σ_91 kR_planMany) ∧ (ss_.2 kR_pointMany 32 = ss_.1)) (fun ss_ => (2000 - ss_.1).toNat) ⟨hσ_91, frσ_91, (by (try dsimp only) <;> first | assumption | omega | ((try simp (disch := omega) only [w32_of, w64_of, w8_of]) <;> first | assumption | omega | (split <;> omega) | (refine And.intro ?_ ?_ <;> split <;> omega)) | omega), (by (try dsimp only) <;> first | assumption | omega | ((try simp (disch := omega) only [w32_of, w64_of, w8_of]) <;> first | assumption | omega | (split <;> omega) | (refine And.intro ?_ ?_ <;> split <;> omega)) | omega), (by (try dsimp only) <;> (first | exact nf91 | exact NF_tr gn ngσ_111)), (by (try dsimp only) <;> (first | rfl | (rw [← gP]; funext i; exact FR_at flσ_111 (by decide) i))), (by (try dsimp only) <;> (first | rfl | (rw [← gM]; funext i; exact FR_at flσ_111 (by decide) i))), (by (try dsimp only) <;> first | assumption | omega | ((try simp (disch := omega) only [w32_of, w64_of, w8_of]) <;> first | assumption | omega | (split <;> omega) | (refine And.intro ?_ ?_ <;> split <;> omega)) | omega)⟩ ?_
          rintro ⟨k_92, σ_93⟩ y71
          try dsimp only at y71 ⊢
          obtain ⟨hσ_93, frσ_93, g68, g69, gn, gP, gM, g70⟩ := y71
          have c73 := w32_rng k_92
          have c74 := ii_kR_hullMany hσ_93 0
          have c75 := w32_rng (σ_93 kR_hullMany 0)
          refine wp_if (fun c72 => ?_) (fun c72 => ?_)
          · try simp (disch := omega) only [w32_of, w64_of, w8_of, decide_eq_true_eq, decide_eq_false_iff_not, Bool.not_eq_true] at c72
            refine wp_rdI (by (try dsimp only) <;> first | assumption | omega | ((try simp (disch := omega) only [w32_of, w64_of, w8_of]) <;> first | assumption | omega | (split <;> omega) | (refine And.intro ?_ ?_ <;> split <;> omega)) | omega) (by (try dsimp only) <;> first | assumption | omega | ((try simp (disch := omega) only [w32_of, w64_of, w8_of]) <;> first | assumption | omega | (split <;> omega) | (refine And.intro ?_ ?_ <;> split <;> omega)) | omega) (fun x_102 e_x_102 => ?_)
            have b_x_102 : 0 ≤ x_102 ∧ x_102 ≤ 1023 := by rw [e_x_102]; exact ii_kR_hullSpot hσ_93 _
            try simp (disch := omega) only [w32_of, w64_of, w8_of] at e_x_102
            have c76 := ii_kR_hullSpot hσ_93 k_92
            have c77 := w32_rng x_102
            refine wp_rdI (by (try dsimp only) <;> first | assumption | omega | ((try simp (disch := omega) only [w32_of, w64_of, w8_of]) <;> first | assumption | omega | (split <;> omega) | (refine And.intro ?_ ?_ <;> split <;> omega)) | omega) (by (try dsimp only) <;> first | assumption | omega | ((try simp (disch := omega) only [w32_of, w64_of, w8_of]) <;> first | assumption | omega | (split <;> omega) | (refine And.intro ?_ ?_ <;> split <;> omega)) | omega) (fun x_104 e_x_104 => ?_)
            have b_x_104 : (-1000000000) ≤ x_104 ∧ x_104 ≤ 1000000000 := by rw [e_x_104]; exact ii_kR_spotX hσ_93 _
            try simp (disch := omega) only [w32_of, w64_of, w8_of] at e_x_104
            have c78 := ii_kR_spotX hσ_93 x_102
            refine wp_rdI (by (try dsimp only) <;> first | assumption | omega | ((try simp (disch := omega) only [w32_of, w64_of, w8_of]) <;> first | assumption | omega | (split <;> omega) | (refine And.intro ?_ ?_ <;> split <;> omega)) | omega) (by (try dsimp only) <;> first | assumption | omega | ((try simp (disch := omega) only [w32_of, w64_of, w8_of]) <;> first | assumption | omega | (split <;> omega) | (refine And.intro ?_ ?_ <;> split <;> omega)) | omega) (fun x_106 e_x_106 => ?_)
            have b_x_106 : 0 ≤ x_106 ∧ x_106 ≤ 1023 := by rw [e_x_106]; exact ii_kR_hullSpot hσ_93 _
            try simp (disch := omega) only [w32_of, w64_of, w8_of] at e_x_106
            have c79 := w32_rng x_106
            refine wp_rdI (by (try dsimp only) <;> first | assumption | omega | ((try simp (disch := omega) only [w32_of, w64_of, w8_of]) <;> first | assumption | omega | (split <;> omega) | (refine And.intro ?_ ?_ <;> split <;> omega)) | omega) (by (try dsimp only) <;> first | assumption | omega | ((try simp (disch := omega) only [w32_of, w64_of, w8_of]) <;> first | assumption | omega | (split <;> omega) | (refine And.intro ?_ ?_ <;> split <;> omega)) | omega) (fun x_108 e_x_108 => ?_)
            have b_x_108 : (-1000000000) ≤ x_108 ∧ x_108 ≤ 1000000000 := by rw [e_x_108]; exact ii_kR_spotY hσ_93 _
            try simp (disch := omega) only [w32_of, w64_of, w8_of] at e_x_108
            have c80 := ii_kR_spotY hσ_93 x_106
            have c81 := ii_kR_pointMany hσ_93 32
            refine wp_bd (v_dot (σ := σ_93) (x_0 := x_104) (y_0 := x_108) hσ_93 (by (try dsimp only) <;> first | assumption | omega | ((try simp (disch := omega) only [w32_of, w64_of, w8_of]) <;> first | assumption | omega | (split <;> omega) | (refine And.intro ?_ ?_ <;> split <;> omega)) | omega) (by (try dsimp only) <;> first | assumption | omega | ((try simp (disch := omega) only [w32_of, w64_of, w8_of]) <;> first | assumption | omega | (split <;> omega) | (refine And.intro ?_ ?_ <;> split <;> omega)) | omega) (by (try dsimp only) <;> first | assumption | omega | ((try simp (disch := omega) only [w32_of, w64_of, w8_of]) <;> first | assumption | omega | (split <;> omega) | (refine And.intro ?_ ?_ <;> split <;> omega)) | omega) (by (try dsimp only) <;> first | assumption | omega | ((try simp (disch := omega) only [w32_of, w64_of, w8_of]) <;> first | assumption | omega | (split <;> omega) | (refine And.intro ?_ ?_ <;> split <;> omega)) | omega) (by (try dsimp only) <;> first | assumption | omega | ((try simp (disch := omega) only [w32_of, w64_of, w8_of]) <;> first | assumption | omega | (split <;> omega) | (refine And.intro ?_ ?_ <;> split <;> omega)) | omega)) ?_
            rintro σ_111 - ⟨hσ_111, flσ_111, ngσ_111, d1⟩
            have frσ_111 : FR [kR_hullMany, kR_hullSpot, kR_plan, kR_planMany, kR_pointMany, kR_spotX, kR_spotY, kR_spots, kR_thrown, kR_xs, kR_ys] σ σ_111 := FR_tr frσ_93 flσ_111 (by decide) (by decide)
            have c82 := ii_kR_pointMany hσ_111 32
            try simp (disch := omega) only [w32_of, w64_of, w8_of] at d1
            have c83 := ii_kR_hullMany hσ_111 0
            have c84 := FR_at flσ_111 (c := kR_hullMany) (by decide) 0
            exact wp_some (x_inl ⟨⟨hσ_111, frσ_111, (by (try dsimp only) <;> first | assumption | omega | ((try simp (disch := omega) only [w32_of, w64_of, w8_of]) <;> first | assumption | omega | (split <;> omega) | (refine And.intro ?_ ?_ <;> split <;> omega)) | omega), (by (try dsimp only) <;> first | assumption | omega | ((try simp (disch := omega) only [w32_of, w64_of, w8_of]) <;> first | assumption | omega | (split <;> omega) | (refine And.intro ?_ ?_ <;> split <;> omega)) | omega), (by (try dsimp only) <;> (first | exact nf91 | exact NF_tr gn ngσ_111)), (by (try dsimp only) <;> (first | rfl | (rw [← gP]; funext i; exact FR_at flσ_111 (by decide) i))), (by (try dsimp only) <;> (first | rfl | (rw [← gM]; funext i; exact FR_at flσ_111 (by decide) i))), (by (try dsimp only) <;> first | assumption | omega | ((try simp (disch := omega) only [w32_of, w64_of, w8_of]) <;> first | assumption | omega | (split <;> omega) | (refine And.intro ?_ ?_ <;> split <;> omega)) | omega)⟩, (by (try dsimp only) <;> first | assumption | omega | ((try simp (disch := omega) only [w32_of, w64_of, w8_of]) <;> first | assumption | omega | (split <;> omega) | (refine And.intro ?_ ?_ <;> split <;> omega)) | omega)⟩)
          · try simp (disch := omega) only [w32_of, w64_of, w8_of, decide_eq_true_eq, decide_eq_false_iff_not, Bool.not_eq_true] at c72
            have c85 := ii_kR_pointMany hσ_93 32
            exact wp_some (x_inr ⟨(by (try dsimp only) <;> first | assumption | omega | ((try simp (disch := omega) only [w32_of, w64_of, w8_of]) <;> first | assumption | omega | (split <;> omega) | (refine And.intro ?_ ?_ <;> split <;> omega)) | omega), hσ_93, frσ_93, (by (try dsimp only) <;> first | assumption | omega | ((try simp (disch := omega) only [w32_of, w64_of, w8_of]) <;> first | assumption | omega | (split <;> omega) | (refine And.intro ?_ ?_ <;> split <;> omega)) | omega), (by (try dsimp only) <;> (exact gn)), (by (try dsimp only) <;> (exact gP)), (by (try dsimp only) <;> (exact gM)), (by (try dsimp only) <;> first | assumption | omega | ((try simp (disch := omega) only [w32_of, w64_of, w8_of]) <;> first | assumption | omega | (split <;> omega) | (refine And.intro ?_ ?_ <;> split <;> omega)) | omega)⟩)
        rintro ⟨k_114, σ_115⟩ _ y89
        try dsimp only at y89 ⊢
        obtain ⟨g86, hσ_115, frσ_115, g87, nf115, gP, gM, g88⟩ := y89
        refine wp_bd (P := fun rr_ => II rr_ ∧ FR [kR_hullMany, kR_hullSpot, kR_plan, kR_planMany, kR_pointMany, kR_spotX, kR_spotY, kR_spots, kR_thrown, kR_xs, kR_ys] σ rr_ ∧ (rr_ kR_hullMany 0 = σ_71 kR_hullMany 0) ∧ (NF σ_71 rr_) ∧ (rr_ kR_plan = σ_91 kR_plan) ∧ (rr_ kR_planMany = σ_91 kR_planMany) ∧ (2 < σ_71 kR_hullMany 0 → rr_ kR_pointMany 32 = σ_71 kR_hullMany 0 + 1) ∧ (¬ 2 < σ_71 kR_hullMany 0 → rr_ kR_pointMany 32 = σ_71 kR_hullMany 0)) ?_ ?_
        · have c91 := ii_kR_hullMany hσ_115 0
          have c92 := w32_rng (σ_115 kR_hullMany 0)
          refine wp_if (fun c90 => ?_) (fun c90 => ?_)
          · try simp (disch := omega) only [w32_of, w64_of, w8_of, decide_eq_true_eq, decide_eq_false_iff_not, Bool.not_eq_true] at c90
            refine wp_rdI (by (try dsimp only) <;> first | assumption | omega | ((try simp (disch := omega) only [w32_of, w64_of, w8_of]) <;> first | assumption | omega | (split <;> omega) | (refine And.intro ?_ ?_ <;> split <;> omega)) | omega) (by (try dsimp only) <;> first | assumption | omega | ((try simp (disch := omega) only [w32_of, w64_of, w8_of]) <;> first | assumption | omega | (split <;> omega) | (refine And.intro ?_ ?_ <;> split <;> omega)) | omega) (fun x_121 e_x_121 => ?_)
            have b_x_121 : 0 ≤ x_121 ∧ x_121 ≤ 1023 := by rw [e_x_121]; exact ii_kR_hullSpot hσ_115 _
            try simp (disch := omega) only [w32_of, w64_of, w8_of] at e_x_121
            have c93 := ii_kR_hullSpot hσ_115 0
            have c94 := w32_rng x_121
            refine wp_rdI (by (try dsimp only) <;> first | assumption | omega | ((try simp (disch := omega) only [w32_of, w64_of, w8_of]) <;> first | assumption | omega | (split <;> omega) | (refine And.intro ?_ ?_ <;> split <;> omega)) | omega) (by (try dsimp only) <;> first | assumption | omega | ((try simp (disch := omega) only [w32_of, w64_of, w8_of]) <;> first | assumption | omega | (split <;> omega) | (refine And.intro ?_ ?_ <;> split <;> omega)) | omega) (fun x_123 e_x_123 => ?_)
            have b_x_123 : (-1000000000) ≤ x_123 ∧ x_123 ≤ 1000000000 := by rw [e_x_123]; exact ii_kR_spotX hσ_115 _
            try simp (disch := omega) only [w32_of, w64_of, w8_of] at e_x_123
            have c95 := ii_kR_spotX hσ_115 x_121
            refine wp_rdI (by (try dsimp only) <;> first | assumption | omega | ((try simp (disch := omega) only [w32_of, w64_of, w8_of]) <;> first | assumption | omega | (split <;> omega) | (refine And.intro ?_ ?_ <;> split <;> omega)) | omega) (by (try dsimp only) <;> first | assumption | omega | ((try simp (disch := omega) only [w32_of, w64_of, w8_of]) <;> first | assumption | omega | (split <;> omega) | (refine And.intro ?_ ?_ <;> split <;> omega)) | omega) (fun x_125 e_x_125 => ?_)
            have b_x_125 : 0 ≤ x_125 ∧ x_125 ≤ 1023 := by rw [e_x_125]; exact ii_kR_hullSpot hσ_115 _
            try simp (disch := omega) only [w32_of, w64_of, w8_of] at e_x_125
            have c96 := w32_rng x_125
            refine wp_rdI (by (try dsimp only) <;> first | assumption | omega | ((try simp (disch := omega) only [w32_of, w64_of, w8_of]) <;> first | assumption | omega | (split <;> omega) | (refine And.intro ?_ ?_ <;> split <;> omega)) | omega) (by (try dsimp only) <;> first | assumption | omega | ((try simp (disch := omega) only [w32_of, w64_of, w8_of]) <;> first | assumption | omega | (split <;> omega) | (refine And.intro ?_ ?_ <;> split <;> omega)) | omega) (fun x_127 e_x_127 => ?_)
            have b_x_127 : (-1000000000) ≤ x_127 ∧ x_127 ≤ 1000000000 := by rw [e_x_127]; exact ii_kR_spotY hσ_115 _
            try simp (disch := omega) only [w32_of, w64_of, w8_of] at e_x_127
            have c97 := ii_kR_spotY hσ_115 x_125
            have c98 := ii_kR_pointMany hσ_115 32
            refine wp_bd (v_dot (σ := σ_115) (x_0 := x_123) (y_0 := x_127) hσ_115 (by (try dsimp only) <;> first | assumption | omega | ((try simp (disch := omega) only [w32_of, w64_of, w8_of]) <;> first | assumption | omega | (split <;> omega) | (refine And.intro ?_ ?_ <;> split <;> omega)) | omega) (by (try dsimp only) <;> first | assumption | omega | ((try simp (disch := omega) only [w32_of, w64_of, w8_of]) <;> first | assumption | omega | (split <;> omega) | (refine And.intro ?_ ?_ <;> split <;> omega)) | omega) (by (try dsimp only) <;> first | assumption | omega | ((try simp (disch := omega) only [w32_of, w64_of, w8_of]) <;> first | assumption | omega | (split <;> omega) | (refine And.intro ?_ ?_ <;> split <;> omega)) | omega) (by (try dsimp only) <;> first | assumption | omega | ((try simp (disch := omega) only [w32_of, w64_of, w8_of]) <;> first | assumption | omega | (split <;> omega) | (refine And.intro ?_ ?_ <;> split <;> omega)) | omega) (by (try dsimp only) <;> first | assumption | omega | ((try simp (disch := omega) only [w32_of, w64_of, w8_of]) <;> first | assumption | omega | (split <;> omega) | (refine And.intro ?_ ?_ <;> split <;> omega)) | omega)) ?_
            rintro σ_130 - ⟨hσ_130, flσ_130, ngσ_130, d1⟩
            have frσ_130 : FR [kR_hullMany, kR_hullSpot, kR_plan, kR_planMany, kR_pointMany, kR_spotX, kR_spotY, kR_spots, kR_thrown, kR_xs, kR_ys] σ σ_130 := FR_tr frσ_115 flσ_130 (by decide) (by decide)
            have c99 := ii_kR_pointMany hσ_130 32
            try simp (disch := omega) only [w32_of, w64_of, w8_of] at d1
            have c100 := ii_kR_hullMany hσ_130 0
            have c101 := FR_at flσ_130 (c := kR_hullMany) (by decide) 0
            exact wp_some ⟨hσ_130, frσ_130, (by (try dsimp only) <;> first | assumption | omega | ((try simp (disch := omega) only [w32_of, w64_of, w8_of]) <;> first | assumption | omega | (split <;> omega) | (refine And.intro ?_ ?_ <;> split <;> omega)) | omega), (by (try dsimp only) <;> (first | exact NF_tr nf115 ngσ_130 | exact nf115)), (by (try dsimp only) <;> (first | exact gP | (rw [← gP]; funext i; exact FR_at flσ_130 (by decide) i))), (by (try dsimp only) <;> (first | exact gM | (rw [← gM]; funext i; exact FR_at flσ_130 (by decide) i))), (by (try dsimp only) <;> first | assumption | omega | ((try simp (disch := omega) only [w32_of, w64_of, w8_of]) <;> first | assumption | omega | (split <;> omega) | (refine And.intro ?_ ?_ <;> split <;> omega)) | omega), (by (try dsimp only) <;> first | assumption | omega | ((try simp (disch := omega) only [w32_of, w64_of, w8_of]) <;> first | assumption | omega | (split <;> omega) | (refine And.intro ?_ ?_ <;> split <;> omega)) | omega)⟩
          · try simp (disch := omega) only [w32_of, w64_of, w8_of, decide_eq_true_eq, decide_eq_false_iff_not, Bool.not_eq_true] at c90
            have c102 := ii_kR_pointMany hσ_115 32
            exact wp_some ⟨hσ_115, frσ_115, (by (try dsimp only) <;> first | assumption | omega | ((try simp (disch := omega) only [w32_of, w64_of, w8_of]) <;> first | assumption | omega | (split <;> omega) | (refine And.intro ?_ ?_ <;> split <;> omega)) | omega), (by (try dsimp only) <;> (first | exact NF_tr nf115 ngσ_130 | exact nf115)), (by (try dsimp only) <;> (first | exact gP | (rw [← gP]; funext i; exact FR_at flσ_130 (by decide) i))), (by (try dsimp only) <;> (first | exact gM | (rw [← gM]; funext i; exact FR_at flσ_130 (by decide) i))), (by (try dsimp only) <;> first | assumption | omega | ((try simp (disch := omega) only [w32_of, w64_of, w8_of]) <;> first | assumption | omega | (split <;> omega) | (refine And.intro ?_ ?_ <;> split <;> omega)) | omega), (by (try dsimp only) <;> first | assumption | omega | ((try simp (disch := omega) only [w32_of, w64_of, w8_of]) <;> first | assumption | omega | (split <;> omega) | (refine And.intro ?_ ?_ <;> split <;> omega)) | omega)⟩
        rintro σ_133 _ ⟨hσ_133, frσ_133, g103, nf133, gP, gM, g104, g105⟩
        have sn : SHn σ_133 := HU_SHn b71 (by rw [gM]; split <;> omega) (by rw [gP]; exact k91) (by rw [gP]; exact c91) (fun h => by rw [gP]; omega) (by split <;> omega)
        have s133 : SHs σ_133 := NF_SHs hσ_71 nf133 s71
        refine wp_bd (v_move (σ := σ_133) (from_0 := 32) (to_0 := to_0) hσ_133 (by (try dsimp only) <;> first | assumption | omega | ((try simp (disch := omega) only [w32_of, w64_of, w8_of]) <;> first | assumption | omega | (split <;> omega) | (refine And.intro ?_ ?_ <;> split <;> omega)) | omega) (by (try dsimp only) <;> first | assumption | omega | ((try simp (disch := omega) only [w32_of, w64_of, w8_of]) <;> first | assumption | omega | (split <;> omega) | (refine And.intro ?_ ?_ <;> split <;> omega)) | omega) (by (try dsimp only) <;> first | assumption | omega | ((try simp (disch := omega) only [w32_of, w64_of, w8_of]) <;> first | assumption | omega | (split <;> omega) | (refine And.intro ?_ ?_ <;> split <;> omega)) | omega)) ?_
        rintro σ_135 - ⟨hσ_135, flσ_135, gm⟩
        have frσ_135 : FR [kR_hullMany, kR_hullSpot, kR_plan, kR_planMany, kR_pointMany, kR_spotX, kR_spotY, kR_spots, kR_thrown, kR_xs, kR_ys] σ σ_135 := FR_tr frσ_133 flσ_135 (by decide) (by decide)
        try simp (disch := omega) only [w32_of, w64_of, w8_of] at gm
        have s135 : SHs σ_135 := MV_SHs hσ_133 gm (SHn_SH sn) s133
        exact wp_some ⟨hσ_135, frσ_135, (by (try dsimp only) <;> (first | exact s135 | exact s67 | exact s55 | exact s45))⟩
    · have k106 := fun q => c14 (g8.mpr q)
      try simp (disch := omega) only [w32_of, w64_of, w8_of] at k106
      try simp (disch := omega) only [w32_of, w64_of, w8_of, decide_eq_true_eq, decide_eq_false_iff_not, Bool.not_eq_true] at c14
      refine wp_somek ?_
      try dsimp only
      have c109 := ii_kR_thrown hσ_45 0
      refine wp_fails hσ_45 (by (try dsimp only) <;> first | assumption | omega | ((try simp (disch := omega) only [w32_of, w64_of, w8_of]) <;> first | assumption | omega | (split <;> omega) | (refine And.intro ?_ ?_ <;> split <;> omega)) | omega) (by decide) (fun σ_55 hσ_55 flσ_55 e107 e108 => ?_)
      try dsimp only
      have frσ_55 : FR [kR_hullMany, kR_hullSpot, kR_plan, kR_planMany, kR_pointMany, kR_spotX, kR_spotY, kR_spots, kR_thrown, kR_xs, kR_ys] σ σ_55 := FR_tr frσ_45 flσ_55 (by decide) (by decide)
      have k110 := e107 rfl
      have s55 : SHs σ_55 := SHs_f flσ_55 (by decide) s45
      refine wp_tt ?_
      exact wp_some ⟨hσ_55, frσ_55, (by (try dsimp only) <;> (first | exact s135 | exact s67 | exact s55 | exact s45))⟩
