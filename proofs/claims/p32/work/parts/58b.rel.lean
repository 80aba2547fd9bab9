theorem s_R_linear {σ : SG} {a_0 : Int} {b_0 : Int} (hσ : II σ) (w0 : -9000000000000000000 ≤ a_0 ∧ a_0 ≤ 9000000000000000000) (w1 : -9000000000000000000 ≤ b_0 ∧ b_0 ≤ 9000000000000000000) (w2 : R01 σ) : wp_ (fR_linear σ a_0 b_0) (fun zz_ => II zz_.2 ∧ FR [kR_limbs, kR_sign, kR_w] σ zz_.2 ∧ (R01 zz_.2)) := by
  unfold fR_linear
  obtain ⟨⟨v0, r0⟩, ⟨v1, r1⟩⟩ := id w2
  have c2 := w64_rng b_0
  refine wp_if (fun c1 => ?_) (fun c1 => ?_)
  · try simp (disch := omega) only [w32_of, w64_of, w8_of, decide_eq_true_eq, decide_eq_false_iff_not, Bool.not_eq_true] at c1
    exact wp_some ⟨hσ, (FR_refl _ _), (by (try dsimp only) <;> (first | exact w2 | exact r01))⟩
  · try simp (disch := omega) only [w32_of, w64_of, w8_of, decide_eq_true_eq, decide_eq_false_iff_not, Bool.not_eq_true] at c1
    refine wp_rdI (by (try dsimp only) <;> first | assumption | omega | ((try simp (disch := omega) only [w32_of, w64_of, w8_of]) <;> first | assumption | omega | (split <;> omega) | (refine And.intro ?_ ?_ <;> split <;> omega)) | omega) (by (try dsimp only) <;> first | assumption | omega | ((try simp (disch := omega) only [w32_of, w64_of, w8_of]) <;> first | assumption | omega | (split <;> omega) | (refine And.intro ?_ ?_ <;> split <;> omega)) | omega) (fun x_9 e_x_9 => ?_)
    have b_x_9 : 0 ≤ x_9 ∧ x_9 ≤ 300 := by rw [e_x_9]; exact ii_kR_limbs hσ _
    try simp (disch := omega) only [w32_of, w64_of, w8_of] at e_x_9
    have c3 := ii_kR_limbs hσ 0
    have c5 := w32_rng x_9
    refine wp_if (fun c4 => ?_) (fun c4 => ?_)
    · try simp (disch := omega) only [w32_of, w64_of, w8_of, decide_eq_true_eq, decide_eq_false_iff_not, Bool.not_eq_true] at c4
      exact wp_some ⟨hσ, (FR_refl _ _), (by (try dsimp only) <;> (first | exact w2 | exact r01))⟩
    · try simp (disch := omega) only [w32_of, w64_of, w8_of, decide_eq_true_eq, decide_eq_false_iff_not, Bool.not_eq_true] at c4
      refine wp_bd (g_set (σ := σ) (t := 2) (v := a_0) hσ (by (try dsimp only) <;> first | assumption | omega | ((try simp (disch := omega) only [w32_of, w64_of, w8_of]) <;> first | assumption | omega | (split <;> omega) | (refine And.intro ?_ ?_ <;> split <;> omega)) | omega) (by (try dsimp only) <;> first | assumption | omega | ((try simp (disch := omega) only [w32_of, w64_of, w8_of]) <;> first | assumption | omega | (split <;> omega) | (refine And.intro ?_ ?_ <;> split <;> omega)) | omega) (by (try dsimp only) <;> first | assumption | omega | ((try simp (disch := omega) only [w32_of, w64_of, w8_of]) <;> first | assumption | omega | (split <;> omega) | (refine And.intro ?_ ?_ <;> split <;> omega)) | omega) (by (try dsimp only) <;> first | assumption | omega | ((try simp (disch := omega) only [w32_of, w64_of, w8_of]) <;> first | assumption | omega | (split <;> omega) | (refine And.intro ?_ ?_ <;> split <;> omega)) | omega)) ?_
      rintro σ_13 - ⟨hσ_13, flσ_13, g6, g7⟩
      have frσ_13 : FR [kR_limbs, kR_sign, kR_w] σ σ_13 := FR_le flσ_13 (by decide)
      have rgσ_13_2 : RG σ_13 2 (a_0) 2 := g6
      have kpσ_13 := g7
      have rgσ_13_0 : RG σ_13 0 (v0) 6 := g7 0 _ _ (by omega) (by omega) (by omega) r0
      have rgσ_13_1 : RG σ_13 1 (v1) 6 := g7 1 _ _ (by omega) (by omega) (by omega) r1
      refine wp_bd (g_times (σ := σ_13) (t := 3) (a := 2) (b := 1) hσ_13 (by (try dsimp only) <;> first | assumption | omega | ((try simp (disch := omega) only [w32_of, w64_of, w8_of]) <;> first | assumption | omega | (split <;> omega) | (refine And.intro ?_ ?_ <;> split <;> omega)) | omega) (by (try dsimp only) <;> first | assumption | omega | ((try simp (disch := omega) only [w32_of, w64_of, w8_of]) <;> first | assumption | omega | (split <;> omega) | (refine And.intro ?_ ?_ <;> split <;> omega)) | omega) (by (try dsimp only) <;> first | assumption | omega | ((try simp (disch := omega) only [w32_of, w64_of, w8_of]) <;> first | assumption | omega | (split <;> omega) | (refine And.intro ?_ ?_ <;> split <;> omega)) | omega) (by (try dsimp only) <;> first | assumption | omega | ((try simp (disch := omega) only [w32_of, w64_of, w8_of]) <;> first | assumption | omega | (split <;> omega) | (refine And.intro ?_ ?_ <;> split <;> omega)) | omega) (by (try dsimp only) <;> first | assumption | omega | ((try simp (disch := omega) only [w32_of, w64_of, w8_of]) <;> first | assumption | omega | (split <;> omega) | (refine And.intro ?_ ?_ <;> split <;> omega)) | omega) (by (try dsimp only) <;> first | assumption | omega | ((try simp (disch := omega) only [w32_of, w64_of, w8_of]) <;> first | assumption | omega | (split <;> omega) | (refine And.intro ?_ ?_ <;> split <;> omega)) | omega) (by (try dsimp only) <;> first | assumption | omega | ((try simp (disch := omega) only [w32_of, w64_of, w8_of]) <;> first | assumption | omega | (split <;> omega) | (refine And.intro ?_ ?_ <;> split <;> omega)) | omega) (by (try dsimp only) <;> first | assumption | omega | ((try simp (disch := omega) only [w32_of, w64_of, w8_of]) <;> first | assumption | omega | (split <;> omega) | (refine And.intro ?_ ?_ <;> split <;> omega)) | omega) rgσ_13_2 rgσ_13_1 (by decide)) ?_
      rintro σ_15 - ⟨hσ_15, flσ_15, g8, g9⟩
      have frσ_15 : FR [kR_limbs, kR_sign, kR_w] σ σ_15 := FR_tr frσ_13 flσ_15 (by decide) (by decide)
      have rgσ_15_3 : RG σ_15 3 ((a_0) * (v1)) 8 := g8
      have kpσ_15 := g9
      have rgσ_15_2 : RG σ_15 2 (a_0) 2 := g9 2 _ _ (by omega) (by omega) (by omega) rgσ_13_2
      have rgσ_15_0 : RG σ_15 0 (v0) 6 := g9 0 _ _ (by omega) (by omega) (by omega) rgσ_13_0
      have rgσ_15_1 : RG σ_15 1 (v1) 6 := g9 1 _ _ (by omega) (by omega) (by omega) rgσ_13_1
      refine wp_bd (g_set (σ := σ_15) (t := 4) (v := b_0) hσ_15 (by (try dsimp only) <;> first | assumption | omega | ((try simp (disch := omega) only [w32_of, w64_of, w8_of]) <;> first | assumption | omega | (split <;> omega) | (refine And.intro ?_ ?_ <;> split <;> omega)) | omega) (by (try dsimp only) <;> first | assumption | omega | ((try simp (disch := omega) only [w32_of, w64_of, w8_of]) <;> first | assumption | omega | (split <;> omega) | (refine And.intro ?_ ?_ <;> split <;> omega)) | omega) (by (try dsimp only) <;> first | assumption | omega | ((try simp (disch := omega) only [w32_of, w64_of, w8_of]) <;> first | assumption | omega | (split <;> omega) | (refine And.intro ?_ ?_ <;> split <;> omega)) | omega) (by (try dsimp only) <;> first | assumption | omega | ((try simp (disch := omega) only [w32_of, w64_of, w8_of]) <;> first | assumption | omega | (split <;> omega) | (refine And.intro ?_ ?_ <;> split <;> omega)) | omega)) ?_
      rintro σ_17 - ⟨hσ_17, flσ_17, g10, g11⟩
      have frσ_17 : FR [kR_limbs, kR_sign, kR_w] σ σ_17 := FR_tr frσ_15 flσ_17 (by decide) (by decide)
      have rgσ_17_4 : RG σ_17 4 (b_0) 2 := g10
      have kpσ_17 := g11
      have rgσ_17_3 : RG σ_17 3 ((a_0) * (v1)) 8 := g11 3 _ _ (by omega) (by omega) (by omega) rgσ_15_3
      have rgσ_17_2 : RG σ_17 2 (a_0) 2 := g11 2 _ _ (by omega) (by omega) (by omega) rgσ_15_2
      have rgσ_17_0 : RG σ_17 0 (v0) 6 := g11 0 _ _ (by omega) (by omega) (by omega) rgσ_15_0
      have rgσ_17_1 : RG σ_17 1 (v1) 6 := g11 1 _ _ (by omega) (by omega) (by omega) rgσ_15_1
      refine wp_bd (g_times (σ := σ_17) (t := 5) (a := 4) (b := 0) hσ_17 (by (try dsimp only) <;> first | assumption | omega | ((try simp (disch := omega) only [w32_of, w64_of, w8_of]) <;> first | assumption | omega | (split <;> omega) | (refine And.intro ?_ ?_ <;> split <;> omega)) | omega) (by (try dsimp only) <;> first | assumption | omega | ((try simp (disch := omega) only [w32_of, w64_of, w8_of]) <;> first | assumption | omega | (split <;> omega) | (refine And.intro ?_ ?_ <;> split <;> omega)) | omega) (by (try dsimp only) <;> first | assumption | omega | ((try simp (disch := omega) only [w32_of, w64_of, w8_of]) <;> first | assumption | omega | (split <;> omega) | (refine And.intro ?_ ?_ <;> split <;> omega)) | omega) (by (try dsimp only) <;> first | assumption | omega | ((try simp (disch := omega) only [w32_of, w64_of, w8_of]) <;> first | assumption | omega | (split <;> omega) | (refine And.intro ?_ ?_ <;> split <;> omega)) | omega) (by (try dsimp only) <;> first | assumption | omega | ((try simp (disch := omega) only [w32_of, w64_of, w8_of]) <;> first | assumption | omega | (split <;> omega) | (refine And.intro ?_ ?_ <;> split <;> omega)) | omega) (by (try dsimp only) <;> first | assumption | omega | ((try simp (disch := omega) only [w32_of, w64_of, w8_of]) <;> first | assumption | omega | (split <;> omega) | (refine And.intro ?_ ?_ <;> split <;> omega)) | omega) (by (try dsimp only) <;> first | assumption | omega | ((try simp (disch := omega) only [w32_of, w64_of, w8_of]) <;> first | assumption | omega | (split <;> omega) | (refine And.intro ?_ ?_ <;> split <;> omega)) | omega) (by (try dsimp only) <;> first | assumption | omega | ((try simp (disch := omega) only [w32_of, w64_of, w8_of]) <;> first | assumption | omega | (split <;> omega) | (refine And.intro ?_ ?_ <;> split <;> omega)) | omega) rgσ_17_4 rgσ_17_0 (by decide)) ?_
      rintro σ_19 - ⟨hσ_19, flσ_19, g12, g13⟩
      have frσ_19 : FR [kR_limbs, kR_sign, kR_w] σ σ_19 := FR_tr frσ_17 flσ_19 (by decide) (by decide)
      have rgσ_19_5 : RG σ_19 5 ((b_0) * (v0)) 8 := g12
      have kpσ_19 := g13
      have rgσ_19_4 : RG σ_19 4 (b_0) 2 := g13 4 _ _ (by omega) (by omega) (by omega) rgσ_17_4
      have rgσ_19_3 : RG σ_19 3 ((a_0) * (v1)) 8 := g13 3 _ _ (by omega) (by omega) (by omega) rgσ_17_3
      have rgσ_19_2 : RG σ_19 2 (a_0) 2 := g13 2 _ _ (by omega) (by omega) (by omega) rgσ_17_2
      have rgσ_19_0 : RG σ_19 0 (v0) 6 := g13 0 _ _ (by omega) (by omega) (by omega) rgσ_17_0
      have rgσ_19_1 : RG σ_19 1 (v1) 6 := g13 1 _ _ (by omega) (by omega) (by omega) rgσ_17_1
      refine wp_bd (g_add (σ := σ_19) (t := 6) (a := 3) (b := 5) (less := false) hσ_19 (by (try dsimp only) <;> first | assumption | omega | ((try simp (disch := omega) only [w32_of, w64_of, w8_of]) <;> first | assumption | omega | (split <;> omega) | (refine And.intro ?_ ?_ <;> split <;> omega)) | omega) (by (try dsimp only) <;> first | assumption | omega | ((try simp (disch := omega) only [w32_of, w64_of, w8_of]) <;> first | assumption | omega | (split <;> omega) | (refine And.intro ?_ ?_ <;> split <;> omega)) | omega) (by (try dsimp only) <;> first | assumption | omega | ((try simp (disch := omega) only [w32_of, w64_of, w8_of]) <;> first | assumption | omega | (split <;> omega) | (refine And.intro ?_ ?_ <;> split <;> omega)) | omega) (by (try dsimp only) <;> first | assumption | omega | ((try simp (disch := omega) only [w32_of, w64_of, w8_of]) <;> first | assumption | omega | (split <;> omega) | (refine And.intro ?_ ?_ <;> split <;> omega)) | omega) (by (try dsimp only) <;> first | assumption | omega | ((try simp (disch := omega) only [w32_of, w64_of, w8_of]) <;> first | assumption | omega | (split <;> omega) | (refine And.intro ?_ ?_ <;> split <;> omega)) | omega) (by (try dsimp only) <;> first | assumption | omega | ((try simp (disch := omega) only [w32_of, w64_of, w8_of]) <;> first | assumption | omega | (split <;> omega) | (refine And.intro ?_ ?_ <;> split <;> omega)) | omega) (RG_le rgσ_19_3 (by decide : (8 : Int) ≤ 8)) (RG_le rgσ_19_5 (by decide : (8 : Int) ≤ 8)) (by decide)) ?_
      rintro σ_21 - ⟨hσ_21, flσ_21, g14, g15⟩
      have frσ_21 : FR [kR_limbs, kR_sign, kR_w] σ σ_21 := FR_tr frσ_19 flσ_21 (by decide) (by decide)
      have rgσ_21_6 : RG σ_21 6 (((a_0) * (v1)) + ((b_0) * (v0))) 9 := g14
      have kpσ_21 := g15
      have rgσ_21_5 : RG σ_21 5 ((b_0) * (v0)) 8 := g15 5 _ _ (by omega) (by omega) (by omega) rgσ_19_5
      have rgσ_21_4 : RG σ_21 4 (b_0) 2 := g15 4 _ _ (by omega) (by omega) (by omega) rgσ_19_4
      have rgσ_21_3 : RG σ_21 3 ((a_0) * (v1)) 8 := g15 3 _ _ (by omega) (by omega) (by omega) rgσ_19_3
      have rgσ_21_2 : RG σ_21 2 (a_0) 2 := g15 2 _ _ (by omega) (by omega) (by omega) rgσ_19_2
      have rgσ_21_0 : RG σ_21 0 (v0) 6 := g15 0 _ _ (by omega) (by omega) (by omega) rgσ_19_0
      have rgσ_21_1 : RG σ_21 1 (v1) 6 := g15 1 _ _ (by omega) (by omega) (by omega) rgσ_19_1
      have r01 : R01 σ_21 := ⟨⟨_, rgσ_21_0⟩, ⟨_, rgσ_21_1⟩⟩
      refine wp_rdI (by (try dsimp only) <;> first | assumption | omega | ((try simp (disch := omega) only [w32_of, w64_of, w8_of]) <;> first | assumption | omega | (split <;> omega) | (refine And.intro ?_ ?_ <;> split <;> omega)) | omega) (by (try dsimp only) <;> first | assumption | omega | ((try simp (disch := omega) only [w32_of, w64_of, w8_of]) <;> first | assumption | omega | (split <;> omega) | (refine And.intro ?_ ?_ <;> split <;> omega)) | omega) (fun x_22 e_x_22 => ?_)
      have b_x_22 : (-1) ≤ x_22 ∧ x_22 ≤ 1 := by rw [e_x_22]; exact ii_kR_sign hσ_21 _
      try simp (disch := omega) only [w32_of, w64_of, w8_of] at e_x_22
      have c16 := ii_kR_sign hσ_21 6
      exact wp_some ⟨hσ_21, frσ_21, (by (try dsimp only) <;> (first | exact w2 | exact r01))⟩
theorem s_R_besideX {σ : SG} {x_0 : Int} (hσ : II σ) (qx_0 : (-1000000000) ≤ x_0 ∧ x_0 ≤ 1000000000) (w0 : R01 σ) : wp_ (fR_besideX σ x_0) (fun zz_ => II zz_.2 ∧ FR [kR_limbs, kR_sign, kR_w] σ zz_.2 ∧ (R01 zz_.2)) := by
  unfold fR_besideX
  have hb := ii_kR_baseX hσ 0
  have hw := ii_kR_wayX hσ 0
  have c1 := ii_kR_baseX hσ 0
  have c2 := ii_kR_wayX hσ 0
  refine wp_bd (s_R_linear (σ := σ) (a_0 := ((σ kR_baseX 0) - x_0)) (b_0 := (σ kR_wayX 0)) hσ (by (try dsimp only) <;> first | assumption | omega | ((try simp (disch := omega) only [w32_of, w64_of, w8_of]) <;> first | assumption | omega | (split <;> omega) | (refine And.intro ?_ ?_ <;> split <;> omega)) | omega) (by (try dsimp only) <;> first | assumption | omega | ((try simp (disch := omega) only [w32_of, w64_of, w8_of]) <;> first | assumption | omega | (split <;> omega) | (refine And.intro ?_ ?_ <;> split <;> omega)) | omega) (by (try dsimp only) <;> first | assumption | omega | ((try simp (disch := omega) only [w32_of, w64_of, w8_of]) <;> first | assumption | omega | (split <;> omega) | (refine And.intro ?_ ?_ <;> split <;> omega)) | omega)) ?_
  rintro ⟨x_3, σ_2⟩ - y4
  try dsimp only at y4 ⊢
  obtain ⟨hσ_2, flσ_2, g3⟩ := y4
  have frσ_2 : FR [kR_limbs, kR_sign, kR_w] σ σ_2 := FR_le flσ_2 (by decide)
  try simp (disch := omega) only [w32_of, w64_of, w8_of] at g3
  exact wp_some ⟨hσ_2, frσ_2, (by (try dsimp only) <;> first | assumption | omega | ((try simp (disch := omega) only [w32_of, w64_of, w8_of]) <;> first | assumption | omega | (split <;> omega) | (refine And.intro ?_ ?_ <;> split <;> omega)) | omega)⟩
theorem s_R_besideY {σ : SG} {y_0 : Int} (hσ : II σ) (qy_0 : (-1000000000) ≤ y_0 ∧ y_0 ≤ 1000000000) (w0 : R01 σ) : wp_ (fR_besideY σ y_0) (fun zz_ => II zz_.2 ∧ FR [kR_limbs, kR_sign, kR_w] σ zz_.2 ∧ (R01 zz_.2)) := by
  unfold fR_besideY
  have hb := ii_kR_baseY hσ 0
  have hw := ii_kR_wayY hσ 0
  have c1 := ii_kR_baseY hσ 0
  have c2 := ii_kR_wayY hσ 0
  refine wp_bd (s_R_linear (σ := σ) (a_0 := ((σ kR_baseY 0) - y_0)) (b_0 := (σ kR_wayY 0)) hσ (by (try dsimp only) <;> first | assumption | omega | ((try simp (disch := omega) only [w32_of, w64_of, w8_of]) <;> first | assumption | omega | (split <;> omega) | (refine And.intro ?_ ?_ <;> split <;> omega)) | omega) (by (try dsimp only) <;> first | assumption | omega | ((try simp (disch := omega) only [w32_of, w64_of, w8_of]) <;> first | assumption | omega | (split <;> omega) | (refine And.intro ?_ ?_ <;> split <;> omega)) | omega) (by (try dsimp only) <;> first | assumption | omega | ((try simp (disch := omega) only [w32_of, w64_of, w8_of]) <;> first | assumption | omega | (split <;> omega) | (refine And.intro ?_ ?_ <;> split <;> omega)) | omega)) ?_
  rintro ⟨x_3, σ_2⟩ - y4
  try dsimp only at y4 ⊢
  obtain ⟨hσ_2, flσ_2, g3⟩ := y4
  have frσ_2 : FR [kR_limbs, kR_sign, kR_w] σ σ_2 := FR_le flσ_2 (by decide)
  try simp (disch := omega) only [w32_of, w64_of, w8_of] at g3
  exact wp_some ⟨hσ_2, frσ_2, (by (try dsimp only) <;> first | assumption | omega | ((try simp (disch := omega) only [w32_of, w64_of, w8_of]) <;> first | assumption | omega | (split <;> omega) | (refine And.intro ?_ ?_ <;> split <;> omega)) | omega)⟩
theorem s_R_sideOf {σ : SG} {ax_0 : Int} {ay_0 : Int} {bx_0 : Int} {by_0 : Int} (hσ : II σ) (qax_0 : (-1000000000) ≤ ax_0 ∧ ax_0 ≤ 1000000000) (qay_0 : (-1000000000) ≤ ay_0 ∧ ay_0 ≤ 1000000000) (qbx_0 : (-1000000000) ≤ bx_0 ∧ bx_0 ≤ 1000000000) (qby_0 : (-1000000000) ≤ by_0 ∧ by_0 ≤ 1000000000) (w0 : R01 σ) : wp_ (fR_sideOf σ ax_0 ay_0 bx_0 by_0) (fun zz_ => II zz_.2 ∧ FR [kR_limbs, kR_sign, kR_w] σ zz_.2 ∧ (R01 zz_.2)) := by
  unfold fR_sideOf
  have hb1 := ii_kR_baseX hσ 0
  have hw1 := ii_kR_wayX hσ 0
  have hb2 := ii_kR_baseY hσ 0
  have hw2 := ii_kR_wayY hσ 0
  have hc1 := crR_b (a := bx_0 - ax_0) (b := by_0 - ay_0) (c := (σ kR_baseX 0) - ax_0) (d := (σ kR_baseY 0) - ay_0) ⟨by omega, by omega⟩ ⟨by omega, by omega⟩ ⟨by omega, by omega⟩ ⟨by omega, by omega⟩
  have hc2 := crR_b (a := bx_0 - ax_0) (b := by_0 - ay_0) (c := (σ kR_wayX 0)) (d := (σ kR_wayY 0)) ⟨by omega, by omega⟩ ⟨by omega, by omega⟩ ⟨by omega, by omega⟩ ⟨by omega, by omega⟩
  have c1 := ii_kR_baseX hσ 0
  have c2 := ii_kR_baseY hσ 0
  refine wp_lt (fun x_1 e_x_1 => ?_)
  try simp (disch := omega) only [w32_of, w64_of, w8_of] at e_x_1
  have c3 := ii_kR_wayX hσ 0
  have c4 := ii_kR_wayY hσ 0
  refine wp_bd (s_R_linear (σ := σ) (a_0 := x_1) (b_0 := (fR_cross (bx_0 - ax_0) (by_0 - ay_0) (σ kR_wayX 0) (σ kR_wayY 0))) hσ (by (try dsimp only) <;> first | assumption | omega | ((try simp (disch := omega) only [w32_of, w64_of, w8_of]) <;> first | assumption | omega | (split <;> omega) | (refine And.intro ?_ ?_ <;> split <;> omega)) | omega) (by (try dsimp only) <;> first | assumption | omega | ((try simp (disch := omega) only [w32_of, w64_of, w8_of]) <;> first | assumption | omega | (split <;> omega) | (refine And.intro ?_ ?_ <;> split <;> omega)) | omega) (by (try dsimp only) <;> first | assumption | omega | ((try simp (disch := omega) only [w32_of, w64_of, w8_of]) <;> first | assumption | omega | (split <;> omega) | (refine And.intro ?_ ?_ <;> split <;> omega)) | omega)) ?_
  rintro ⟨x_4, σ_3⟩ - y6
  try dsimp only at y6 ⊢
  obtain ⟨hσ_3, flσ_3, g5⟩ := y6
  have frσ_3 : FR [kR_limbs, kR_sign, kR_w] σ σ_3 := FR_le flσ_3 (by decide)
  try simp (disch := omega) only [w32_of, w64_of, w8_of] at g5
  exact wp_some ⟨hσ_3, frσ_3, (by (try dsimp only) <;> first | assumption | omega | ((try simp (disch := omega) only [w32_of, w64_of, w8_of]) <;> first | assumption | omega | (split <;> omega) | (refine And.intro ?_ ?_ <;> split <;> omega)) | omega)⟩
theorem s_R_isHereOn {σ : SG} {i_0 : Int} (hσ : II σ) (qi_0 : 0 ≤ i_0 ∧ i_0 ≤ 4199) (w0 : R01 σ) : wp_ (fR_isHereOn σ i_0) (fun zz_ => II zz_.2 ∧ FR [kR_limbs, kR_sign, kR_w] σ zz_.2 ∧ (R01 zz_.2)) := by
  unfold fR_isHereOn
  have c1 := w32_rng i_0
  refine wp_rdI (by (try dsimp only) <;> first | assumption | omega | ((try simp (disch := omega) only [w32_of, w64_of, w8_of]) <;> first | assumption | omega | (split <;> omega) | (refine And.intro ?_ ?_ <;> split <;> omega)) | omega) (by (try dsimp only) <;> first | assumption | omega | ((try simp (disch := omega) only [w32_of, w64_of, w8_of]) <;> first | assumption | omega | (split <;> omega) | (refine And.intro ?_ ?_ <;> split <;> omega)) | omega) (fun x_1 e_x_1 => ?_)
  have b_x_1 : (-1000000000) ≤ x_1 ∧ x_1 ≤ 1000000000 := by rw [e_x_1]; exact ii_kR_sx hσ _
  try simp (disch := omega) only [w32_of, w64_of, w8_of] at e_x_1
  have c2 := ii_kR_sx hσ i_0
  refine wp_rdI (by (try dsimp only) <;> first | assumption | omega | ((try simp (disch := omega) only [w32_of, w64_of, w8_of]) <;> first | assumption | omega | (split <;> omega) | (refine And.intro ?_ ?_ <;> split <;> omega)) | omega) (by (try dsimp only) <;> first | assumption | omega | ((try simp (disch := omega) only [w32_of, w64_of, w8_of]) <;> first | assumption | omega | (split <;> omega) | (refine And.intro ?_ ?_ <;> split <;> omega)) | omega) (fun x_3 e_x_3 => ?_)
  have b_x_3 : (-1000000000) ≤ x_3 ∧ x_3 ≤ 1000000000 := by rw [e_x_3]; exact ii_kR_sy hσ _
  try simp (disch := omega) only [w32_of, w64_of, w8_of] at e_x_3
  have c3 := ii_kR_sy hσ i_0
  refine wp_rdI (by (try dsimp only) <;> first | assumption | omega | ((try simp (disch := omega) only [w32_of, w64_of, w8_of]) <;> first | assumption | omega | (split <;> omega) | (refine And.intro ?_ ?_ <;> split <;> omega)) | omega) (by (try dsimp only) <;> first | assumption | omega | ((try simp (disch := omega) only [w32_of, w64_of, w8_of]) <;> first | assumption | omega | (split <;> omega) | (refine And.intro ?_ ?_ <;> split <;> omega)) | omega) (fun x_5 e_x_5 => ?_)
  have b_x_5 : (-1000000000) ≤ x_5 ∧ x_5 ≤ 1000000000 := by rw [e_x_5]; exact ii_kR_ex hσ _
  try simp (disch := omega) only [w32_of, w64_of, w8_of] at e_x_5
  have c4 := ii_kR_ex hσ i_0
  refine wp_rdI (by (try dsimp only) <;> first | assumption | omega | ((try simp (disch := omega) only [w32_of, w64_of, w8_of]) <;> first | assumption | omega | (split <;> omega) | (refine And.intro ?_ ?_ <;> split <;> omega)) | omega) (by (try dsimp only) <;> first | assumption | omega | ((try simp (disch := omega) only [w32_of, w64_of, w8_of]) <;> first | assumption | omega | (split <;> omega) | (refine And.intro ?_ ?_ <;> split <;> omega)) | omega) (fun x_7 e_x_7 => ?_)
  have b_x_7 : (-1000000000) ≤ x_7 ∧ x_7 ≤ 1000000000 := by rw [e_x_7]; exact ii_kR_ey hσ _
  try simp (disch := omega) only [w32_of, w64_of, w8_of] at e_x_7
  have c5 := ii_kR_ey hσ i_0
  refine wp_bd (s_R_sideOf (σ := σ) (ax_0 := x_1) (ay_0 := x_3) (bx_0 := x_5) (by_0 := x_7) hσ (by (try dsimp only) <;> first | assumption | omega | ((try simp (disch := omega) only [w32_of, w64_of, w8_of]) <;> first | assumption | omega | (split <;> omega) | (refine And.intro ?_ ?_ <;> split <;> omega)) | omega) (by (try dsimp only) <;> first | assumption | omega | ((try simp (disch := omega) only [w32_of, w64_of, w8_of]) <;> first | assumption | omega | (split <;> omega) | (refine And.intro ?_ ?_ <;> split <;> omega)) | omega) (by (try dsimp only) <;> first | assumption | omega | ((try simp (disch := omega) only [w32_of, w64_of, w8_of]) <;> first | assumption | omega | (split <;> omega) | (refine And.intro ?_ ?_ <;> split <;> omega)) | omega) (by (try dsimp only) <;> first | assumption | omega | ((try simp (disch := omega) only [w32_of, w64_of, w8_of]) <;> first | assumption | omega | (split <;> omega) | (refine And.intro ?_ ?_ <;> split <;> omega)) | omega) (by (try dsimp only) <;> first | assumption | omega | ((try simp (disch := omega) only [w32_of, w64_of, w8_of]) <;> first | assumption | omega | (split <;> omega) | (refine And.intro ?_ ?_ <;> split <;> omega)) | omega)) ?_
  rintro ⟨x_11, σ_10⟩ - y7
  try dsimp only at y7 ⊢
  obtain ⟨hσ_10, flσ_10, g6⟩ := y7
  have frσ_10 : FR [kR_limbs, kR_sign, kR_w] σ σ_10 := FR_le flσ_10 (by decide)
  try simp (disch := omega) only [w32_of, w64_of, w8_of] at g6
  have c9 := w32_rng x_11
  refine wp_if (fun c8 => ?_) (fun c8 => ?_)
  · try simp (disch := omega) only [w32_of, w64_of, w8_of, decide_eq_true_eq, decide_eq_false_iff_not, Bool.not_eq_true] at c8
    exact wp_some ⟨hσ_10, frσ_10, (by (try dsimp only) <;> first | assumption | omega | ((try simp (disch := omega) only [w32_of, w64_of, w8_of]) <;> first | assumption | omega | (split <;> omega) | (refine And.intro ?_ ?_ <;> split <;> omega)) | omega)⟩
  · try simp (disch := omega) only [w32_of, w64_of, w8_of, decide_eq_true_eq, decide_eq_false_iff_not, Bool.not_eq_true] at c8
    refine wp_bd (P := fun rr_ => II rr_.2 ∧ FR [kR_limbs, kR_sign, kR_w] σ rr_.2 ∧ (R01 rr_.2)) ?_ ?_
    · refine wp_rdI (by (try dsimp only) <;> first | assumption | omega | ((try simp (disch := omega) only [w32_of, w64_of, w8_of]) <;> first | assumption | omega | (split <;> omega) | (refine And.intro ?_ ?_ <;> split <;> omega)) | omega) (by (try dsimp only) <;> first | assumption | omega | ((try simp (disch := omega) only [w32_of, w64_of, w8_of]) <;> first | assumption | omega | (split <;> omega) | (refine And.intro ?_ ?_ <;> split <;> omega)) | omega) (fun x_13 e_x_13 => ?_)
      have b_x_13 : (-1000000000) ≤ x_13 ∧ x_13 ≤ 1000000000 := by rw [e_x_13]; exact ii_kR_sx hσ_10 _
      rw [FR_at frσ_10 (c := kR_sx) (by decide)] at e_x_13
      try simp (disch := omega) only [w32_of, w64_of, w8_of] at e_x_13
      have c10 := ii_kR_sx hσ_10 i_0
      have c11 := FR_at flσ_10 (c := kR_sx) (by decide) i_0
      refine wp_bd (s_R_besideX (σ := σ_10) (x_0 := x_13) hσ_10 (by (try dsimp only) <;> first | assumption | omega | ((try simp (disch := omega) only [w32_of, w64_of, w8_of]) <;> first | assumption | omega | (split <;> omega) | (refine And.intro ?_ ?_ <;> split <;> omega)) | omega) (by (try dsimp only) <;> first | assumption | omega | ((try simp (disch := omega) only [w32_of, w64_of, w8_of]) <;> first | assumption | omega | (split <;> omega) | (refine And.intro ?_ ?_ <;> split <;> omega)) | omega)) ?_
      rintro ⟨x_17, σ_16⟩ - y13
      try dsimp only at y13 ⊢
      obtain ⟨hσ_16, flσ_16, g12⟩ := y13
      have frσ_16 : FR [kR_limbs, kR_sign, kR_w] σ σ_16 := FR_tr frσ_10 flσ_16 (by decide) (by decide)
      try simp (disch := omega) only [w32_of, w64_of, w8_of] at g12
      refine wp_rdI (by (try dsimp only) <;> first | assumption | omega | ((try simp (disch := omega) only [w32_of, w64_of, w8_of]) <;> first | assumption | omega | (split <;> omega) | (refine And.intro ?_ ?_ <;> split <;> omega)) | omega) (by (try dsimp only) <;> first | assumption | omega | ((try simp (disch := omega) only [w32_of, w64_of, w8_of]) <;> first | assumption | omega | (split <;> omega) | (refine And.intro ?_ ?_ <;> split <;> omega)) | omega) (fun x_18 e_x_18 => ?_)
      have b_x_18 : (-1000000000) ≤ x_18 ∧ x_18 ≤ 1000000000 := by rw [e_x_18]; exact ii_kR_ex hσ_16 _
      rw [FR_at frσ_16 (c := kR_ex) (by decide)] at e_x_18
      try simp (disch := omega) only [w32_of, w64_of, w8_of] at e_x_18
      have c14 := ii_kR_ex hσ_16 i_0
      have c15 := FR_at flσ_16 (c := kR_ex) (by decide) i_0
      have c16 := ii_kR_ex hσ_10 i_0
      have c17 := FR_at flσ_10 (c := kR_ex) (by decide) i_0
      refine wp_bd (s_R_besideX (σ := σ_16) (x_0 := x_18) hσ_16 (by (try dsimp only) <;> first | assumption | omega | ((try simp (disch := omega) only [w32_of, w64_of, w8_of]) <;> first | assumption | omega | (split <;> omega) | (refine And.intro ?_ ?_ <;> split <;> omega)) | omega) (by (try dsimp only) <;> first | assumption | omega | ((try simp (disch := omega) only [w32_of, w64_of, w8_of]) <;> first | assumption | omega | (split <;> omega) | (refine And.intro ?_ ?_ <;> split <;> omega)) | omega)) ?_
      rintro ⟨x_22, σ_21⟩ - y19
      try dsimp only at y19 ⊢
      obtain ⟨hσ_21, flσ_21, g18⟩ := y19
      have frσ_21 : FR [kR_limbs, kR_sign, kR_w] σ σ_21 := FR_tr frσ_16 flσ_21 (by decide) (by decide)
      try simp (disch := omega) only [w32_of, w64_of, w8_of] at g18
      have c21 := w32_rng (x_17 * x_22)
      refine wp_if (fun c20 => ?_) (fun c20 => ?_)
      · try simp (disch := omega) only [w32_of, w64_of, w8_of, decide_eq_true_eq, decide_eq_false_iff_not, Bool.not_eq_true] at c20
        refine wp_rdI (by (try dsimp only) <;> first | assumption | omega | ((try simp (disch := omega) only [w32_of, w64_of, w8_of]) <;> first | assumption | omega | (split <;> omega) | (refine And.intro ?_ ?_ <;> split <;> omega)) | omega) (by (try dsimp only) <;> first | assumption | omega | ((try simp (disch := omega) only [w32_of, w64_of, w8_of]) <;> first | assumption | omega | (split <;> omega) | (refine And.intro ?_ ?_ <;> split <;> omega)) | omega) (fun x_24 e_x_24 => ?_)
        have b_x_24 : (-1000000000) ≤ x_24 ∧ x_24 ≤ 1000000000 := by rw [e_x_24]; exact ii_kR_sy hσ_21 _
        rw [FR_at frσ_21 (c := kR_sy) (by decide)] at e_x_24
        try simp (disch := omega) only [w32_of, w64_of, w8_of] at e_x_24
        have c22 := ii_kR_sy hσ_21 i_0
        have c23 := FR_at flσ_21 (c := kR_sy) (by decide) i_0
        have c24 := ii_kR_sy hσ_16 i_0
        have c25 := FR_at flσ_16 (c := kR_sy) (by decide) i_0
        have c26 := ii_kR_sy hσ_10 i_0
        have c27 := FR_at flσ_10 (c := kR_sy) (by decide) i_0
        refine wp_bd (s_R_besideY (σ := σ_21) (y_0 := x_24) hσ_21 (by (try dsimp only) <;> first | assumption | omega | ((try simp (disch := omega) only [w32_of, w64_of, w8_of]) <;> first | assumption | omega | (split <;> omega) | (refine And.intro ?_ ?_ <;> split <;> omega)) | omega) (by (try dsimp only) <;> first | assumption | omega | ((try simp (disch := omega) only [w32_of, w64_of, w8_of]) <;> first | assumption | omega | (split <;> omega) | (refine And.intro ?_ ?_ <;> split <;> omega)) | omega)) ?_
        rintro ⟨x_28, σ_27⟩ - y29
        try dsimp only at y29 ⊢
        obtain ⟨hσ_27, flσ_27, g28⟩ := y29
        have frσ_27 : FR [kR_limbs, kR_sign, kR_w] σ σ_27 := FR_tr frσ_21 flσ_27 (by decide) (by decide)
        try simp (disch := omega) only [w32_of, w64_of, w8_of] at g28
        refine wp_rdI (by (try dsimp only) <;> first | assumption | omega | ((try simp (disch := omega) only [w32_of, w64_of, w8_of]) <;> first | assumption | omega | (split <;> omega) | (refine And.intro ?_ ?_ <;> split <;> omega)) | omega) (by (try dsimp only) <;> first | assumption | omega | ((try simp (disch := omega) only [w32_of, w64_of, w8_of]) <;> first | assumption | omega | (split <;> omega) | (refine And.intro ?_ ?_ <;> split <;> omega)) | omega) (fun x_29 e_x_29 => ?_)
        have b_x_29 : (-1000000000) ≤ x_29 ∧ x_29 ≤ 1000000000 := by rw [e_x_29]; exact ii_kR_ey hσ_27 _
        rw [FR_at frσ_27 (c := kR_ey) (by decide)] at e_x_29
        try simp (disch := omega) only [w32_of, w64_of, w8_of] at e_x_29
        have c30 := ii_kR_ey hσ_27 i_0
        have c31 := FR_at flσ_27 (c := kR_ey) (by decide) i_0
        have c32 := ii_kR_ey hσ_21 i_0
        have c33 := FR_at flσ_21 (c := kR_ey) (by decide) i_0
        have c34 := ii_kR_ey hσ_16 i_0
        have c35 := FR_at flσ_16 (c := kR_ey) (by decide) i_0
        have c36 := ii_kR_ey hσ_10 i_0
        have c37 := FR_at flσ_10 (c := kR_ey) (by decide) i_0
        refine wp_bd (s_R_besideY (σ := σ_27) (y_0 := x_29) hσ_27 (by (try dsimp only) <;> first | assumption | omega | ((try simp (disch := omega) only [w32_of, w64_of, w8_of]) <;> first | assumption | omega | (split <;> omega) | (refine And.intro ?_ ?_ <;> split <;> omega)) | omega) (by (try dsimp only) <;> first | assumption | omega | ((try simp (disch := omega) only [w32_of, w64_of, w8_of]) <;> first | assumption | omega | (split <;> omega) | (refine And.intro ?_ ?_ <;> split <;> omega)) | omega)) ?_
        rintro ⟨x_33, σ_32⟩ - y39
        try dsimp only at y39 ⊢
        obtain ⟨hσ_32, flσ_32, g38⟩ := y39
        have frσ_32 : FR [kR_limbs, kR_sign, kR_w] σ σ_32 := FR_tr frσ_27 flσ_32 (by decide) (by decide)
        try simp (disch := omega) only [w32_of, w64_of, w8_of] at g38
        have c41 := w32_rng (x_28 * x_33)
        refine wp_if (fun c40 => ?_) (fun c40 => ?_)
        · try simp (disch := omega) only [w32_of, w64_of, w8_of, decide_eq_true_eq, decide_eq_false_iff_not, Bool.not_eq_true] at c40
          exact wp_some ⟨hσ_32, frσ_32, (by (try dsimp only) <;> first | assumption | omega | ((try simp (disch := omega) only [w32_of, w64_of, w8_of]) <;> first | assumption | omega | (split <;> omega) | (refine And.intro ?_ ?_ <;> split <;> omega)) | omega)⟩
        · try simp (disch := omega) only [w32_of, w64_of, w8_of, decide_eq_true_eq, decide_eq_false_iff_not, Bool.not_eq_true] at c40
          exact wp_some ⟨hσ_32, frσ_32, (by (try dsimp only) <;> first | assumption | omega | ((try simp (disch := omega) only [w32_of, w64_of, w8_of]) <;> first | assumption | omega | (split <;> omega) | (refine And.intro ?_ ?_ <;> split <;> omega)) | omega)⟩
      · try simp (disch := omega) only [w32_of, w64_of, w8_of, decide_eq_true_eq, decide_eq_false_iff_not, Bool.not_eq_true] at c20
        exact wp_some ⟨hσ_21, frσ_21, (by (try dsimp only) <;> first | assumption | omega | ((try simp (disch := omega) only [w32_of, w64_of, w8_of]) <;> first | assumption | omega | (split <;> omega) | (refine And.intro ?_ ?_ <;> split <;> omega)) | omega)⟩
    rintro ⟨x_38, σ_39⟩ _ y43
    try dsimp only at y43 ⊢
    obtain ⟨hσ_39, frσ_39, g42⟩ := y43
    exact wp_some ⟨hσ_39, frσ_39, (by (try dsimp only) <;> first | assumption | omega | ((try simp (disch := omega) only [w32_of, w64_of, w8_of]) <;> first | assumption | omega | (split <;> omega) | (refine And.intro ?_ ?_ <;> split <;> omega)) | omega)⟩
theorem s_R_isHere {σ : SG} {point_0 : Int} (hσ : II σ) (qpoint_0 : 0 ≤ point_0 ∧ point_0 ≤ 67583) (w0 : R01 σ) (w1 : point_0 ≤ 67583) : wp_ (fR_isHere σ point_0) (fun zz_ => II zz_.2 ∧ FR [kR_limbs, kR_sign, kR_w] σ zz_.2 ∧ (R01 zz_.2)) := by
  unfold fR_isHere
  refine wp_bd (P := fun rr_ => II rr_.2 ∧ FR [kR_limbs, kR_sign, kR_w] σ rr_.2 ∧ (R01 rr_.2)) ?_ ?_
  · have c1 := w32_rng point_0
    refine wp_rdI (by (try dsimp only) <;> first | assumption | omega | ((try simp (disch := omega) only [w32_of, w64_of, w8_of]) <;> first | assumption | omega | (split <;> omega) | (refine And.intro ?_ ?_ <;> split <;> omega)) | omega) (by (try dsimp only) <;> first | assumption | omega | ((try simp (disch := omega) only [w32_of, w64_of, w8_of]) <;> first | assumption | omega | (split <;> omega) | (refine And.intro ?_ ?_ <;> split <;> omega)) | omega) (fun x_1 e_x_1 => ?_)
    have b_x_1 : (-1000000000) ≤ x_1 ∧ x_1 ≤ 1000000000 := by rw [e_x_1]; exact ii_kR_xs hσ _
    try simp (disch := omega) only [w32_of, w64_of, w8_of] at e_x_1
    have c2 := ii_kR_xs hσ point_0
    have c3 := w32_rng x_1
    refine wp_bd (s_R_besideX (σ := σ) (x_0 := (w32 x_1)) hσ (by (try dsimp only) <;> first | assumption | omega | ((try simp (disch := omega) only [w32_of, w64_of, w8_of]) <;> first | assumption | omega | (split <;> omega) | (refine And.intro ?_ ?_ <;> split <;> omega)) | omega) (by (try dsimp only) <;> first | assumption | omega | ((try simp (disch := omega) only [w32_of, w64_of, w8_of]) <;> first | assumption | omega | (split <;> omega) | (refine And.intro ?_ ?_ <;> split <;> omega)) | omega)) ?_
    rintro ⟨x_5, σ_4⟩ - y5
    try dsimp only at y5 ⊢
    obtain ⟨hσ_4, flσ_4, g4⟩ := y5
    have frσ_4 : FR [kR_limbs, kR_sign, kR_w] σ σ_4 := FR_le flσ_4 (by decide)
    try simp (disch := omega) only [w32_of, w64_of, w8_of] at g4
    have c7 := w32_rng x_5
    refine wp_if (fun c6 => ?_) (fun c6 => ?_)
    · try simp (disch := omega) only [w32_of, w64_of, w8_of, decide_eq_true_eq, decide_eq_false_iff_not, Bool.not_eq_true] at c6
      refine wp_rdI (by (try dsimp only) <;> first | assumption | omega | ((try simp (disch := omega) only [w32_of, w64_of, w8_of]) <;> first | assumption | omega | (split <;> omega) | (refine And.intro ?_ ?_ <;> split <;> omega)) | omega) (by (try dsimp only) <;> first | assumption | omega | ((try simp (disch := omega) only [w32_of, w64_of, w8_of]) <;> first | assumption | omega | (split <;> omega) | (refine And.intro ?_ ?_ <;> split <;> omega)) | omega) (fun x_7 e_x_7 => ?_)
      have b_x_7 : (-1000000000) ≤ x_7 ∧ x_7 ≤ 1000000000 := by rw [e_x_7]; exact ii_kR_ys hσ_4 _
      rw [FR_at frσ_4 (c := kR_ys) (by decide)] at e_x_7
      try simp (disch := omega) only [w32_of, w64_of, w8_of] at e_x_7
      have c8 := ii_kR_ys hσ_4 point_0
      have c9 := FR_at flσ_4 (c := kR_ys) (by decide) point_0
      have c10 := ii_kR_ys hσ point_0
      have c11 := w32_rng x_7
      refine wp_bd (s_R_besideY (σ := σ_4) (y_0 := (w32 x_7)) hσ_4 (by (try dsimp only) <;> first | assumption | omega | ((try simp (disch := omega) only [w32_of, w64_of, w8_of]) <;> first | assumption | omega | (split <;> omega) | (refine And.intro ?_ ?_ <;> split <;> omega)) | omega) (by (try dsimp only) <;> first | assumption | omega | ((try simp (disch := omega) only [w32_of, w64_of, w8_of]) <;> first | assumption | omega | (split <;> omega) | (refine And.intro ?_ ?_ <;> split <;> omega)) | omega)) ?_
      rintro ⟨x_11, σ_10⟩ - y13
      try dsimp only at y13 ⊢
      obtain ⟨hσ_10, flσ_10, g12⟩ := y13
      have frσ_10 : FR [kR_limbs, kR_sign, kR_w] σ σ_10 := FR_tr frσ_4 flσ_10 (by decide) (by decide)
      try simp (disch := omega) only [w32_of, w64_of, w8_of] at g12
      have c15 := w32_rng x_11
      refine wp_if (fun c14 => ?_) (fun c14 => ?_)
      · try simp (disch := omega) only [w32_of, w64_of, w8_of, decide_eq_true_eq, decide_eq_false_iff_not, Bool.not_eq_true] at c14
        exact wp_some ⟨hσ_10, frσ_10, (by (try dsimp only) <;> first | assumption | omega | ((try simp (disch := omega) only [w32_of, w64_of, w8_of]) <;> first | assumption | omega | (split <;> omega) | (refine And.intro ?_ ?_ <;> split <;> omega)) | omega)⟩
      · try simp (disch := omega) only [w32_of, w64_of, w8_of, decide_eq_true_eq, decide_eq_false_iff_not, Bool.not_eq_true] at c14
        exact wp_some ⟨hσ_10, frσ_10, (by (try dsimp only) <;> first | assumption | omega | ((try simp (disch := omega) only [w32_of, w64_of, w8_of]) <;> first | assumption | omega | (split <;> omega) | (refine And.intro ?_ ?_ <;> split <;> omega)) | omega)⟩
    · try simp (disch := omega) only [w32_of, w64_of, w8_of, decide_eq_true_eq, decide_eq_false_iff_not, Bool.not_eq_true] at c6
      exact wp_some ⟨hσ_4, frσ_4, (by (try dsimp only) <;> first | assumption | omega | ((try simp (disch := omega) only [w32_of, w64_of, w8_of]) <;> first | assumption | omega | (split <;> omega) | (refine And.intro ?_ ?_ <;> split <;> omega)) | omega)⟩
  rintro ⟨x_16, σ_17⟩ _ y17
  try dsimp only at y17 ⊢
  obtain ⟨hσ_17, frσ_17, g16⟩ := y17
  exact wp_some ⟨hσ_17, frσ_17, (by (try dsimp only) <;> first | assumption | omega | ((try simp (disch := omega) only [w32_of, w64_of, w8_of]) <;> first | assumption | omega | (split <;> omega) | (refine And.intro ?_ ?_ <;> split <;> omega)) | omega)⟩
theorem s_R_isOnSegments {σ : SG} {shape_0 : Int} (hσ : II σ) (qshape_0 : 0 ≤ shape_0 ∧ shape_0 ≤ 1) (w0 : R01 σ) : wp_ (fR_isOnSegments σ shape_0) (fun zz_ => II zz_.2 ∧ FR [kR_limbs, kR_sign, kR_w] σ zz_.2 ∧ (R01 zz_.2)) := by
  unfold fR_isOnSegments
  refine wp_bd (P := fun rr_ => II rr_.2.2 ∧ FR [kR_limbs, kR_sign, kR_w] σ rr_.2.2 ∧ (R01 rr_.2.2)) ?_ ?_
  · refine wp_whl (fun ss_ => II ss_.2.2 ∧ FR [kR_limbs, kR_sign, kR_w] σ ss_.2.2 ∧ (0 ≤ ss_.2.1 ∧ ss_.2.1 ≤ 4200) ∧ (R01 ss_.2.2)) (fun ss_ => (4300 - ss_.2.1).toNat) ⟨hσ, (FR_refl _ _), (by (try dsimp only) <;> first | assumption | omega | ((try simp (disch := omega) only [w32_of, w64_of, w8_of]) <;> first | assumption | omega | (split <;> omega) | (refine And.intro ?_ ?_ <;> split <;> omega)) | omega), (by (try dsimp only) <;> first | assumption | omega | ((try simp (disch := omega) only [w32_of, w64_of, w8_of]) <;> first | assumption | omega | (split <;> omega) | (refine And.intro ?_ ?_ <;> split <;> omega)) | omega)⟩ ?_
    rintro ⟨on_1, i_2, σ_3⟩ y3
    try dsimp only at y3 ⊢
    obtain ⟨hσ_3, frσ_3, g1, g2⟩ := y3
    have c5 := w32_rng i_2
    have c6 := ii_kR_segments hσ_3 0
    have c7 := FR_at frσ_3 (c := kR_segments) (by decide) 0
    have c8 := ii_kR_segments hσ 0
    have c9 := w32_rng (σ_3 kR_segments 0)
    refine wp_if (fun c4 => ?_) (fun c4 => ?_)
    · try simp (disch := omega) only [w32_of, w64_of, w8_of, decide_eq_true_eq, decide_eq_false_iff_not, Bool.not_eq_true] at c4
      refine wp_bd (P := fun rr_ => II rr_.2 ∧ FR [kR_limbs, kR_sign, kR_w] σ rr_.2 ∧ (R01 rr_.2)) ?_ ?_
      · refine wp_rdI (by (try dsimp only) <;> first | assumption | omega | ((try simp (disch := omega) only [w32_of, w64_of, w8_of]) <;> first | assumption | omega | (split <;> omega) | (refine And.intro ?_ ?_ <;> split <;> omega)) | omega) (by (try dsimp only) <;> first | assumption | omega | ((try simp (disch := omega) only [w32_of, w64_of, w8_of]) <;> first | assumption | omega | (split <;> omega) | (refine And.intro ?_ ?_ <;> split <;> omega)) | omega) (fun x_11 e_x_11 => ?_)
        have b_x_11 : 0 ≤ x_11 ∧ x_11 ≤ 1 := by rw [e_x_11]; exact ii_kR_shapeOf hσ_3 _
        rw [FR_at frσ_3 (c := kR_shapeOf) (by decide)] at e_x_11
        try simp (disch := omega) only [w32_of, w64_of, w8_of] at e_x_11
        have c10 := ii_kR_shapeOf hσ_3 i_2
        have c11 := FR_at frσ_3 (c := kR_shapeOf) (by decide) i_2
        have c12 := ii_kR_shapeOf hσ i_2
        have c14 := w32_rng x_11
        have c15 := w32_rng shape_0
        refine wp_if (fun c13 => ?_) (fun c13 => ?_)
        · try simp (disch := omega) only [w32_of, w64_of, w8_of, decide_eq_true_eq, decide_eq_false_iff_not, Bool.not_eq_true] at c13
          refine wp_bd (s_R_isHereOn (σ := σ_3) (i_0 := i_2) hσ_3 (by (try dsimp only) <;> first | assumption | omega | ((try simp (disch := omega) only [w32_of, w64_of, w8_of]) <;> first | assumption | omega | (split <;> omega) | (refine And.intro ?_ ?_ <;> split <;> omega)) | omega) (by (try dsimp only) <;> first | assumption | omega | ((try simp (disch := omega) only [w32_of, w64_of, w8_of]) <;> first | assumption | omega | (split <;> omega) | (refine And.intro ?_ ?_ <;> split <;> omega)) | omega)) ?_
          rintro ⟨x_16, σ_15⟩ - y17
          try dsimp only at y17 ⊢
          obtain ⟨hσ_15, flσ_15, g16⟩ := y17
          have frσ_15 : FR [kR_limbs, kR_sign, kR_w] σ σ_15 := FR_tr frσ_3 flσ_15 (by decide) (by decide)
          try simp (disch := omega) only [w32_of, w64_of, w8_of] at g16
          refine wp_if (fun c18 => ?_) (fun c18 => ?_)
          · try simp (disch := omega) only [w32_of, w64_of, w8_of, decide_eq_true_eq, decide_eq_false_iff_not, Bool.not_eq_true] at c18
            exact wp_some ⟨hσ_15, frσ_15, (by (try dsimp only) <;> first | assumption | omega | ((try simp (disch := omega) only [w32_of, w64_of, w8_of]) <;> first | assumption | omega | (split <;> omega) | (refine And.intro ?_ ?_ <;> split <;> omega)) | omega)⟩
          · try simp (disch := omega) only [w32_of, w64_of, w8_of, decide_eq_true_eq, decide_eq_false_iff_not, Bool.not_eq_true] at c18
            exact wp_some ⟨hσ_15, frσ_15, (by (try dsimp only) <;> first | assumption | omega | ((try simp (disch := omega) only [w32_of, w64_of, w8_of]) <;> first | assumption | omega | (split <;> omega) | (refine And.intro ?_ ?_ <;> split <;> omega)) | omega)⟩
        · try simp (disch := omega) only [w32_of, w64_of, w8_of, decide_eq_true_eq, decide_eq_false_iff_not, Bool.not_eq_true] at c13
          exact wp_some ⟨hσ_3, frσ_3, (by (try dsimp only) <;> first | assumption | omega | ((try simp (disch := omega) only [w32_of, w64_of, w8_of]) <;> first | assumption | omega | (split <;> omega) | (refine And.intro ?_ ?_ <;> split <;> omega)) | omega)⟩
      rintro ⟨x_21, σ_22⟩ _ y20
      try dsimp only at y20 ⊢
      obtain ⟨hσ_22, frσ_22, g19⟩ := y20
      exact wp_some (x_inl ⟨⟨hσ_22, frσ_22, (by (try dsimp only) <;> first | assumption | omega | ((try simp (disch := omega) only [w32_of, w64_of, w8_of]) <;> first | assumption | omega | (split <;> omega) | (refine And.intro ?_ ?_ <;> split <;> omega)) | omega), (by (try dsimp only) <;> first | assumption | omega | ((try simp (disch := omega) only [w32_of, w64_of, w8_of]) <;> first | assumption | omega | (split <;> omega) | (refine And.intro ?_ ?_ <;> split <;> omega)) | omega)⟩, (by (try dsimp only) <;> first | assumption | omega | ((try simp (disch := omega) only [w32_of, w64_of, w8_of]) <;> first | assumption | omega | (split <;> omega) | (refine And.intro ?_ ?_ <;> split <;> omega)) | omega)⟩)
    · try simp (disch := omega) only [w32_of, w64_of, w8_of, decide_eq_true_eq, decide_eq_false_iff_not, Bool.not_eq_true] at c4
      exact wp_some (x_inr ⟨hσ_3, frσ_3, (by (try dsimp only) <;> first | assumption | omega | ((try simp (disch := omega) only [w32_of, w64_of, w8_of]) <;> first | assumption | omega | (split <;> omega) | (refine And.intro ?_ ?_ <;> split <;> omega)) | omega)⟩)
  rintro ⟨on_36, i_37, σ_38⟩ _ y22
  try dsimp only at y22 ⊢
  obtain ⟨hσ_38, frσ_38, g21⟩ := y22
  exact wp_some ⟨hσ_38, frσ_38, (by (try dsimp only) <;> first | assumption | omega | ((try simp (disch := omega) only [w32_of, w64_of, w8_of]) <;> first | assumption | omega | (split <;> omega) | (refine And.intro ?_ ?_ <;> split <;> omega)) | omega)⟩
theorem s_R_isAbove {σ : SG} {y_0 : Int} (hσ : II σ) (qy_0 : (-1000000000) ≤ y_0 ∧ y_0 ≤ 1000000000) (w0 : R01 σ) : wp_ (fR_isAbove σ y_0) (fun zz_ => II zz_.2 ∧ FR [kR_limbs, kR_sign, kR_w] σ zz_.2 ∧ (R01 zz_.2)) := by
  unfold fR_isAbove
  refine wp_bd (s_R_besideY (σ := σ) (y_0 := y_0) hσ (by (try dsimp only) <;> first | assumption | omega | ((try simp (disch := omega) only [w32_of, w64_of, w8_of]) <;> first | assumption | omega | (split <;> omega) | (refine And.intro ?_ ?_ <;> split <;> omega)) | omega) (by (try dsimp only) <;> first | assumption | omega | ((try simp (disch := omega) only [w32_of, w64_of, w8_of]) <;> first | assumption | omega | (split <;> omega) | (refine And.intro ?_ ?_ <;> split <;> omega)) | omega)) ?_
  rintro ⟨x_3, σ_2⟩ - y2
  try dsimp only at y2 ⊢
  obtain ⟨hσ_2, flσ_2, g1⟩ := y2
  have frσ_2 : FR [kR_limbs, kR_sign, kR_w] σ σ_2 := FR_le flσ_2 (by decide)
  try simp (disch := omega) only [w32_of, w64_of, w8_of] at g1
  exact wp_some ⟨hσ_2, frσ_2, (by (try dsimp only) <;> first | assumption | omega | ((try simp (disch := omega) only [w32_of, w64_of, w8_of]) <;> first | assumption | omega | (split <;> omega) | (refine And.intro ?_ ?_ <;> split <;> omega)) | omega)⟩
theorem s_R_isOdd {σ : SG} {shape_0 : Int} (hσ : II σ) (qshape_0 : 0 ≤ shape_0 ∧ shape_0 ≤ 1) (w0 : R01 σ) : wp_ (fR_isOdd σ shape_0) (fun zz_ => II zz_.2 ∧ FR [kR_limbs, kR_sign, kR_w] σ zz_.2 ∧ (R01 zz_.2)) := by
  unfold fR_isOdd
  refine wp_bd (P := fun rr_ => II rr_.2.2 ∧ FR [kR_limbs, kR_sign, kR_w] σ rr_.2.2 ∧ (R01 rr_.2.2)) ?_ ?_
  · refine wp_whl (fun ss_ => II ss_.2.2 ∧ FR [kR_limbs, kR_sign, kR_w] σ ss_.2.2 ∧ (0 ≤ ss_.2.1 ∧ ss_.2.1 ≤ 4200) ∧ (R01 ss_.2.2)) (fun ss_ => (4300 - ss_.2.1).toNat) ⟨hσ, (FR_refl _ _), (by (try dsimp only) <;> first | assumption | omega | ((try simp (disch := omega) only [w32_of, w64_of, w8_of]) <;> first | assumption | omega | (split <;> omega) | (refine And.intro ?_ ?_ <;> split <;> omega)) | omega), (by (try dsimp only) <;> first | assumption | omega | ((try simp (disch := omega) only [w32_of, w64_of, w8_of]) <;> first | assumption | omega | (split <;> omega) | (refine And.intro ?_ ?_ <;> split <;> omega)) | omega)⟩ ?_
    rintro ⟨odd_1, i_2, σ_3⟩ y3
    try dsimp only at y3 ⊢
    obtain ⟨hσ_3, frσ_3, g1, g2⟩ := y3
    have c5 := w32_rng i_2
    have c6 := ii_kR_segments hσ_3 0
    have c7 := FR_at frσ_3 (c := kR_segments) (by decide) 0
    have c8 := ii_kR_segments hσ 0
    have c9 := w32_rng (σ_3 kR_segments 0)
    refine wp_if (fun c4 => ?_) (fun c4 => ?_)
    · try simp (disch := omega) only [w32_of, w64_of, w8_of, decide_eq_true_eq, decide_eq_false_iff_not, Bool.not_eq_true] at c4
      refine wp_rdI (by (try dsimp only) <;> first | assumption | omega | ((try simp (disch := omega) only [w32_of, w64_of, w8_of]) <;> first | assumption | omega | (split <;> omega) | (refine And.intro ?_ ?_ <;> split <;> omega)) | omega) (by (try dsimp only) <;> first | assumption | omega | ((try simp (disch := omega) only [w32_of, w64_of, w8_of]) <;> first | assumption | omega | (split <;> omega) | (refine And.intro ?_ ?_ <;> split <;> omega)) | omega) (fun x_12 e_x_12 => ?_)
      have b_x_12 : 0 ≤ x_12 ∧ x_12 ≤ 1 := by rw [e_x_12]; exact ii_kR_shapeOf hσ_3 _
      rw [FR_at frσ_3 (c := kR_shapeOf) (by decide)] at e_x_12
      try simp (disch := omega) only [w32_of, w64_of, w8_of] at e_x_12
      have c10 := ii_kR_shapeOf hσ_3 i_2
      have c11 := FR_at frσ_3 (c := kR_shapeOf) (by decide) i_2
      have c12 := ii_kR_shapeOf hσ i_2
      have c14 := w32_rng x_12
      have c15 := w32_rng shape_0
      refine wp_if (fun c13 => ?_) (fun c13 => ?_)
      · try simp (disch := omega) only [w32_of, w64_of, w8_of, decide_eq_true_eq, decide_eq_false_iff_not, Bool.not_eq_true] at c13
        exact wp_some (x_inl ⟨⟨hσ_3, frσ_3, (by (try dsimp only) <;> first | assumption | omega | ((try simp (disch := omega) only [w32_of, w64_of, w8_of]) <;> first | assumption | omega | (split <;> omega) | (refine And.intro ?_ ?_ <;> split <;> omega)) | omega), (by (try dsimp only) <;> first | assumption | omega | ((try simp (disch := omega) only [w32_of, w64_of, w8_of]) <;> first | assumption | omega | (split <;> omega) | (refine And.intro ?_ ?_ <;> split <;> omega)) | omega)⟩, (by (try dsimp only) <;> first | assumption | omega | ((try simp (disch := omega) only [w32_of, w64_of, w8_of]) <;> first | assumption | omega | (split <;> omega) | (refine And.intro ?_ ?_ <;> split <;> omega)) | omega)⟩)
      · try simp (disch := omega) only [w32_of, w64_of, w8_of, decide_eq_true_eq, decide_eq_false_iff_not, Bool.not_eq_true] at c13
        refine wp_rdI (by (try dsimp only) <;> first | assumption | omega | ((try simp (disch := omega) only [w32_of, w64_of, w8_of]) <;> first | assumption | omega | (split <;> omega) | (refine And.intro ?_ ?_ <;> split <;> omega)) | omega) (by (try dsimp only) <;> first | assumption | omega | ((try simp (disch := omega) only [w32_of, w64_of, w8_of]) <;> first | assumption | omega | (split <;> omega) | (refine And.intro ?_ ?_ <;> split <;> omega)) | omega) (fun x_16 e_x_16 => ?_)
        have b_x_16 : (-1000000000) ≤ x_16 ∧ x_16 ≤ 1000000000 := by rw [e_x_16]; exact ii_kR_sy hσ_3 _
        rw [FR_at frσ_3 (c := kR_sy) (by decide)] at e_x_16
        try simp (disch := omega) only [w32_of, w64_of, w8_of] at e_x_16
        have c16 := ii_kR_sy hσ_3 i_2
        have c17 := FR_at frσ_3 (c := kR_sy) (by decide) i_2
        have c18 := ii_kR_sy hσ i_2
        refine wp_bd (s_R_isAbove (σ := σ_3) (y_0 := x_16) hσ_3 (by (try dsimp only) <;> first | assumption | omega | ((try simp (disch := omega) only [w32_of, w64_of, w8_of]) <;> first | assumption | omega | (split <;> omega) | (refine And.intro ?_ ?_ <;> split <;> omega)) | omega) (by (try dsimp only) <;> first | assumption | omega | ((try simp (disch := omega) only [w32_of, w64_of, w8_of]) <;> first | assumption | omega | (split <;> omega) | (refine And.intro ?_ ?_ <;> split <;> omega)) | omega)) ?_
        rintro ⟨x_20, σ_19⟩ - y20
        try dsimp only at y20 ⊢
        obtain ⟨hσ_19, flσ_19, g19⟩ := y20
        have frσ_19 : FR [kR_limbs, kR_sign, kR_w] σ σ_19 := FR_tr frσ_3 flσ_19 (by decide) (by decide)
        try simp (disch := omega) only [w32_of, w64_of, w8_of] at g19
        refine wp_rdI (by (try dsimp only) <;> first | assumption | omega | ((try simp (disch := omega) only [w32_of, w64_of, w8_of]) <;> first | assumption | omega | (split <;> omega) | (refine And.intro ?_ ?_ <;> split <;> omega)) | omega) (by (try dsimp only) <;> first | assumption | omega | ((try simp (disch := omega) only [w32_of, w64_of, w8_of]) <;> first | assumption | omega | (split <;> omega) | (refine And.intro ?_ ?_ <;> split <;> omega)) | omega) (fun x_21 e_x_21 => ?_)
        have b_x_21 : (-1000000000) ≤ x_21 ∧ x_21 ≤ 1000000000 := by rw [e_x_21]; exact ii_kR_ey hσ_19 _
        rw [FR_at frσ_19 (c := kR_ey) (by decide)] at e_x_21
        try simp (disch := omega) only [w32_of, w64_of, w8_of] at e_x_21
        have c21 := ii_kR_ey hσ_19 i_2
        have c22 := FR_at flσ_19 (c := kR_ey) (by decide) i_2
        have c23 := ii_kR_ey hσ_3 i_2
        have c24 := FR_at frσ_3 (c := kR_ey) (by decide) i_2
        have c25 := ii_kR_ey hσ i_2
        refine wp_bd (s_R_isAbove (σ := σ_19) (y_0 := x_21) hσ_19 (by (try dsimp only) <;> first | assumption | omega | ((try simp (disch := omega) only [w32_of, w64_of, w8_of]) <;> first | assumption | omega | (split <;> omega) | (refine And.intro ?_ ?_ <;> split <;> omega)) | omega) (by (try dsimp only) <;> first | assumption | omega | ((try simp (disch := omega) only [w32_of, w64_of, w8_of]) <;> first | assumption | omega | (split <;> omega) | (refine And.intro ?_ ?_ <;> split <;> omega)) | omega)) ?_
        rintro ⟨x_25, σ_24⟩ - y27
        try dsimp only at y27 ⊢
        obtain ⟨hσ_24, flσ_24, g26⟩ := y27
        have frσ_24 : FR [kR_limbs, kR_sign, kR_w] σ σ_24 := FR_tr frσ_19 flσ_24 (by decide) (by decide)
        try simp (disch := omega) only [w32_of, w64_of, w8_of] at g26
        refine wp_if (fun c28 => ?_) (fun c28 => ?_)
        · try simp (disch := omega) only [w32_of, w64_of, w8_of, decide_eq_true_eq, decide_eq_false_iff_not, Bool.not_eq_true] at c28
          exact wp_some (x_inl ⟨⟨hσ_24, frσ_24, (by (try dsimp only) <;> first | assumption | omega | ((try simp (disch := omega) only [w32_of, w64_of, w8_of]) <;> first | assumption | omega | (split <;> omega) | (refine And.intro ?_ ?_ <;> split <;> omega)) | omega), (by (try dsimp only) <;> first | assumption | omega | ((try simp (disch := omega) only [w32_of, w64_of, w8_of]) <;> first | assumption | omega | (split <;> omega) | (refine And.intro ?_ ?_ <;> split <;> omega)) | omega)⟩, (by (try dsimp only) <;> first | assumption | omega | ((try simp (disch := omega) only [w32_of, w64_of, w8_of]) <;> first | assumption | omega | (split <;> omega) | (refine And.intro ?_ ?_ <;> split <;> omega)) | omega)⟩)
        · try simp (disch := omega) only [w32_of, w64_of, w8_of, decide_eq_true_eq, decide_eq_false_iff_not, Bool.not_eq_true] at c28
          refine wp_bd (P := fun rr_ => ((-1000000000) ≤ rr_ ∧ rr_ ≤ 1000000000)) ?_ ?_
          · refine wp_if (fun c29 => ?_) (fun c29 => ?_)
            · try simp (disch := omega) only [w32_of, w64_of, w8_of, decide_eq_true_eq, decide_eq_false_iff_not, Bool.not_eq_true] at c29
              refine wp_rdI (by (try dsimp only) <;> first | assumption | omega | ((try simp (disch := omega) only [w32_of, w64_of, w8_of]) <;> first | assumption | omega | (split <;> omega) | (refine And.intro ?_ ?_ <;> split <;> omega)) | omega) (by (try dsimp only) <;> first | assumption | omega | ((try simp (disch := omega) only [w32_of, w64_of, w8_of]) <;> first | assumption | omega | (split <;> omega) | (refine And.intro ?_ ?_ <;> split <;> omega)) | omega) (fun x_33 e_x_33 => ?_)
              have b_x_33 : (-1000000000) ≤ x_33 ∧ x_33 ≤ 1000000000 := by rw [e_x_33]; exact ii_kR_ex hσ_24 _
              rw [FR_at frσ_24 (c := kR_ex) (by decide)] at e_x_33
              try simp (disch := omega) only [w32_of, w64_of, w8_of] at e_x_33
              have c30 := ii_kR_ex hσ_24 i_2
              have c31 := FR_at flσ_24 (c := kR_ex) (by decide) i_2
              have c32 := ii_kR_ex hσ_19 i_2
              have c33 := FR_at flσ_19 (c := kR_ex) (by decide) i_2
              have c34 := ii_kR_ex hσ_3 i_2
              have c35 := FR_at frσ_3 (c := kR_ex) (by decide) i_2
              have c36 := ii_kR_ex hσ i_2
              exact wp_some (by (try dsimp only) <;> first | assumption | omega | ((try simp (disch := omega) only [w32_of, w64_of, w8_of]) <;> first | assumption | omega | (split <;> omega) | (refine And.intro ?_ ?_ <;> split <;> omega)) | omega)
            · try simp (disch := omega) only [w32_of, w64_of, w8_of, decide_eq_true_eq, decide_eq_false_iff_not, Bool.not_eq_true] at c29
              refine wp_rdI (by (try dsimp only) <;> first | assumption | omega | ((try simp (disch := omega) only [w32_of, w64_of, w8_of]) <;> first | assumption | omega | (split <;> omega) | (refine And.intro ?_ ?_ <;> split <;> omega)) | omega) (by (try dsimp only) <;> first | assumption | omega | ((try simp (disch := omega) only [w32_of, w64_of, w8_of]) <;> first | assumption | omega | (split <;> omega) | (refine And.intro ?_ ?_ <;> split <;> omega)) | omega) (fun x_36 e_x_36 => ?_)
              have b_x_36 : (-1000000000) ≤ x_36 ∧ x_36 ≤ 1000000000 := by rw [e_x_36]; exact ii_kR_sx hσ_24 _
              rw [FR_at frσ_24 (c := kR_sx) (by decide)] at e_x_36
              try simp (disch := omega) only [w32_of, w64_of, w8_of] at e_x_36
              have c37 := ii_kR_sx hσ_24 i_2
              have c38 := FR_at flσ_24 (c := kR_sx) (by decide) i_2
              have c39 := ii_kR_sx hσ_19 i_2
              have c40 := FR_at flσ_19 (c := kR_sx) (by decide) i_2
              have c41 := ii_kR_sx hσ_3 i_2
              have c42 := FR_at frσ_3 (c := kR_sx) (by decide) i_2
              have c43 := ii_kR_sx hσ i_2
              exact wp_some (by (try dsimp only) <;> first | assumption | omega | ((try simp (disch := omega) only [w32_of, w64_of, w8_of]) <;> first | assumption | omega | (split <;> omega) | (refine And.intro ?_ ?_ <;> split <;> omega)) | omega)
          rintro x_39 _ g44
          refine wp_bd (P := fun rr_ => ((-1000000000) ≤ rr_ ∧ rr_ ≤ 1000000000)) ?_ ?_
          · refine wp_if (fun c45 => ?_) (fun c45 => ?_)
            · try simp (disch := omega) only [w32_of, w64_of, w8_of, decide_eq_true_eq, decide_eq_false_iff_not, Bool.not_eq_true] at c45
              refine wp_rdI (by (try dsimp only) <;> first | assumption | omega | ((try simp (disch := omega) only [w32_of, w64_of, w8_of]) <;> first | assumption | omega | (split <;> omega) | (refine And.intro ?_ ?_ <;> split <;> omega)) | omega) (by (try dsimp only) <;> first | assumption | omega | ((try simp (disch := omega) only [w32_of, w64_of, w8_of]) <;> first | assumption | omega | (split <;> omega) | (refine And.intro ?_ ?_ <;> split <;> omega)) | omega) (fun x_45 e_x_45 => ?_)
              have b_x_45 : (-1000000000) ≤ x_45 ∧ x_45 ≤ 1000000000 := by rw [e_x_45]; exact ii_kR_ey hσ_24 _
              rw [FR_at frσ_24 (c := kR_ey) (by decide)] at e_x_45
              try simp (disch := omega) only [w32_of, w64_of, w8_of] at e_x_45
              have c46 := ii_kR_ey hσ_24 i_2
              have c47 := FR_at flσ_24 (c := kR_ey) (by decide) i_2
              exact wp_some (by (try dsimp only) <;> first | assumption | omega | ((try simp (disch := omega) only [w32_of, w64_of, w8_of]) <;> first | assumption | omega | (split <;> omega) | (refine And.intro ?_ ?_ <;> split <;> omega)) | omega)
            · try simp (disch := omega) only [w32_of, w64_of, w8_of, decide_eq_true_eq, decide_eq_false_iff_not, Bool.not_eq_true] at c45
              refine wp_rdI (by (try dsimp only) <;> first | assumption | omega | ((try simp (disch := omega) only [w32_of, w64_of, w8_of]) <;> first | assumption | omega | (split <;> omega) | (refine And.intro ?_ ?_ <;> split <;> omega)) | omega) (by (try dsimp only) <;> first | assumption | omega | ((try simp (disch := omega) only [w32_of, w64_of, w8_of]) <;> first | assumption | omega | (split <;> omega) | (refine And.intro ?_ ?_ <;> split <;> omega)) | omega) (fun x_48 e_x_48 => ?_)
              have b_x_48 : (-1000000000) ≤ x_48 ∧ x_48 ≤ 1000000000 := by rw [e_x_48]; exact ii_kR_sy hσ_24 _
              rw [FR_at frσ_24 (c := kR_sy) (by decide)] at e_x_48
              try simp (disch := omega) only [w32_of, w64_of, w8_of] at e_x_48
              have c48 := ii_kR_sy hσ_24 i_2
              have c49 := FR_at flσ_24 (c := kR_sy) (by decide) i_2
              have c50 := ii_kR_sy hσ_19 i_2
              have c51 := FR_at flσ_19 (c := kR_sy) (by decide) i_2
              exact wp_some (by (try dsimp only) <;> first | assumption | omega | ((try simp (disch := omega) only [w32_of, w64_of, w8_of]) <;> first | assumption | omega | (split <;> omega) | (refine And.intro ?_ ?_ <;> split <;> omega)) | omega)
          rintro x_51 _ g52
          refine wp_bd (P := fun rr_ => ((-1000000000) ≤ rr_ ∧ rr_ ≤ 1000000000)) ?_ ?_
          · refine wp_if (fun c53 => ?_) (fun c53 => ?_)
            · try simp (disch := omega) only [w32_of, w64_of, w8_of, decide_eq_true_eq, decide_eq_false_iff_not, Bool.not_eq_true] at c53
              refine wp_rdI (by (try dsimp only) <;> first | assumption | omega | ((try simp (disch := omega) only [w32_of, w64_of, w8_of]) <;> first | assumption | omega | (split <;> omega) | (refine And.intro ?_ ?_ <;> split <;> omega)) | omega) (by (try dsimp only) <;> first | assumption | omega | ((try simp (disch := omega) only [w32_of, w64_of, w8_of]) <;> first | assumption | omega | (split <;> omega) | (refine And.intro ?_ ?_ <;> split <;> omega)) | omega) (fun x_57 e_x_57 => ?_)
              have b_x_57 : (-1000000000) ≤ x_57 ∧ x_57 ≤ 1000000000 := by rw [e_x_57]; exact ii_kR_sx hσ_24 _
              rw [FR_at frσ_24 (c := kR_sx) (by decide)] at e_x_57
              try simp (disch := omega) only [w32_of, w64_of, w8_of] at e_x_57
              have c54 := ii_kR_sx hσ_24 i_2
              have c55 := FR_at flσ_24 (c := kR_sx) (by decide) i_2
              have c56 := ii_kR_sx hσ_19 i_2
              have c57 := FR_at flσ_19 (c := kR_sx) (by decide) i_2
              have c58 := ii_kR_sx hσ_3 i_2
              have c59 := FR_at frσ_3 (c := kR_sx) (by decide) i_2
              have c60 := ii_kR_sx hσ i_2
              exact wp_some (by (try dsimp only) <;> first | assumption | omega | ((try simp (disch := omega) only [w32_of, w64_of, w8_of]) <;> first | assumption | omega | (split <;> omega) | (refine And.intro ?_ ?_ <;> split <;> omega)) | omega)
            · try simp (disch := omega) only [w32_of, w64_of, w8_of, decide_eq_true_eq, decide_eq_false_iff_not, Bool.not_eq_true] at c53
              refine wp_rdI (by (try dsimp only) <;> first | assumption | omega | ((try simp (disch := omega) only [w32_of, w64_of, w8_of]) <;> first | assumption | omega | (split <;> omega) | (refine And.intro ?_ ?_ <;> split <;> omega)) | omega) (by (try dsimp only) <;> first | assumption | omega | ((try simp (disch := omega) only [w32_of, w64_of, w8_of]) <;> first | assumption | omega | (split <;> omega) | (refine And.intro ?_ ?_ <;> split <;> omega)) | omega) (fun x_60 e_x_60 => ?_)
              have b_x_60 : (-1000000000) ≤ x_60 ∧ x_60 ≤ 1000000000 := by rw [e_x_60]; exact ii_kR_ex hσ_24 _
              rw [FR_at frσ_24 (c := kR_ex) (by decide)] at e_x_60
              try simp (disch := omega) only [w32_of, w64_of, w8_of] at e_x_60
              have c61 := ii_kR_ex hσ_24 i_2
              have c62 := FR_at flσ_24 (c := kR_ex) (by decide) i_2
              have c63 := ii_kR_ex hσ_19 i_2
              have c64 := FR_at flσ_19 (c := kR_ex) (by decide) i_2
              have c65 := ii_kR_ex hσ_3 i_2
              have c66 := FR_at frσ_3 (c := kR_ex) (by decide) i_2
              have c67 := ii_kR_ex hσ i_2
              exact wp_some (by (try dsimp only) <;> first | assumption | omega | ((try simp (disch := omega) only [w32_of, w64_of, w8_of]) <;> first | assumption | omega | (split <;> omega) | (refine And.intro ?_ ?_ <;> split <;> omega)) | omega)
          rintro x_63 _ g68
          refine wp_bd (P := fun rr_ => ((-1000000000) ≤ rr_ ∧ rr_ ≤ 1000000000)) ?_ ?_
          · refine wp_if (fun c69 => ?_) (fun c69 => ?_)
            · try simp (disch := omega) only [w32_of, w64_of, w8_of, decide_eq_true_eq, decide_eq_false_iff_not, Bool.not_eq_true] at c69
              refine wp_rdI (by (try dsimp only) <;> first | assumption | omega | ((try simp (disch := omega) only [w32_of, w64_of, w8_of]) <;> first | assumption | omega | (split <;> omega) | (refine And.intro ?_ ?_ <;> split <;> omega)) | omega) (by (try dsimp only) <;> first | assumption | omega | ((try simp (disch := omega) only [w32_of, w64_of, w8_of]) <;> first | assumption | omega | (split <;> omega) | (refine And.intro ?_ ?_ <;> split <;> omega)) | omega) (fun x_69 e_x_69 => ?_)
              have b_x_69 : (-1000000000) ≤ x_69 ∧ x_69 ≤ 1000000000 := by rw [e_x_69]; exact ii_kR_sy hσ_24 _
              rw [FR_at frσ_24 (c := kR_sy) (by decide)] at e_x_69
              try simp (disch := omega) only [w32_of, w64_of, w8_of] at e_x_69
              have c70 := ii_kR_sy hσ_24 i_2
              have c71 := FR_at flσ_24 (c := kR_sy) (by decide) i_2
              have c72 := ii_kR_sy hσ_19 i_2
              have c73 := FR_at flσ_19 (c := kR_sy) (by decide) i_2
              exact wp_some (by (try dsimp only) <;> first | assumption | omega | ((try simp (disch := omega) only [w32_of, w64_of, w8_of]) <;> first | assumption | omega | (split <;> omega) | (refine And.intro ?_ ?_ <;> split <;> omega)) | omega)
            · try simp (disch := omega) only [w32_of, w64_of, w8_of, decide_eq_true_eq, decide_eq_false_iff_not, Bool.not_eq_true] at c69
              refine wp_rdI (by (try dsimp only) <;> first | assumption | omega | ((try simp (disch := omega) only [w32_of, w64_of, w8_of]) <;> first | assumption | omega | (split <;> omega) | (refine And.intro ?_ ?_ <;> split <;> omega)) | omega) (by (try dsimp only) <;> first | assumption | omega | ((try simp (disch := omega) only [w32_of, w64_of, w8_of]) <;> first | assumption | omega | (split <;> omega) | (refine And.intro ?_ ?_ <;> split <;> omega)) | omega) (fun x_72 e_x_72 => ?_)
              have b_x_72 : (-1000000000) ≤ x_72 ∧ x_72 ≤ 1000000000 := by rw [e_x_72]; exact ii_kR_ey hσ_24 _
              rw [FR_at frσ_24 (c := kR_ey) (by decide)] at e_x_72
              try simp (disch := omega) only [w32_of, w64_of, w8_of] at e_x_72
              have c74 := ii_kR_ey hσ_24 i_2
              have c75 := FR_at flσ_24 (c := kR_ey) (by decide) i_2
              exact wp_some (by (try dsimp only) <;> first | assumption | omega | ((try simp (disch := omega) only [w32_of, w64_of, w8_of]) <;> first | assumption | omega | (split <;> omega) | (refine And.intro ?_ ?_ <;> split <;> omega)) | omega)
          rintro x_75 _ g76
          refine wp_bd (s_R_sideOf (σ := σ_24) (ax_0 := x_39) (ay_0 := x_51) (bx_0 := x_63) (by_0 := x_75) hσ_24 (by (try dsimp only) <;> first | assumption | omega | ((try simp (disch := omega) only [w32_of, w64_of, w8_of]) <;> first | assumption | omega | (split <;> omega) | (refine And.intro ?_ ?_ <;> split <;> omega)) | omega) (by (try dsimp only) <;> first | assumption | omega | ((try simp (disch := omega) only [w32_of, w64_of, w8_of]) <;> first | assumption | omega | (split <;> omega) | (refine And.intro ?_ ?_ <;> split <;> omega)) | omega) (by (try dsimp only) <;> first | assumption | omega | ((try simp (disch := omega) only [w32_of, w64_of, w8_of]) <;> first | assumption | omega | (split <;> omega) | (refine And.intro ?_ ?_ <;> split <;> omega)) | omega) (by (try dsimp only) <;> first | assumption | omega | ((try simp (disch := omega) only [w32_of, w64_of, w8_of]) <;> first | assumption | omega | (split <;> omega) | (refine And.intro ?_ ?_ <;> split <;> omega)) | omega) (by (try dsimp only) <;> first | assumption | omega | ((try simp (disch := omega) only [w32_of, w64_of, w8_of]) <;> first | assumption | omega | (split <;> omega) | (refine And.intro ?_ ?_ <;> split <;> omega)) | omega)) ?_
          rintro ⟨x_78, σ_77⟩ - y78
          try dsimp only at y78 ⊢
          obtain ⟨hσ_77, flσ_77, g77⟩ := y78
          have frσ_77 : FR [kR_limbs, kR_sign, kR_w] σ σ_77 := FR_tr frσ_24 flσ_77 (by decide) (by decide)
          try simp (disch := omega) only [w32_of, w64_of, w8_of] at g77
          have c79 := w32_rng x_78
          have c80 := ii_kR_offX hσ_77 0
          have c81 := FR_at flσ_77 (c := kR_offX) (by decide) 0
          have c82 := ii_kR_offX hσ_24 0
          have c83 := FR_at flσ_24 (c := kR_offX) (by decide) 0
          have c84 := ii_kR_offX hσ_19 0
          have c85 := FR_at flσ_19 (c := kR_offX) (by decide) 0
          have c86 := ii_kR_offX hσ_3 0
          have c87 := FR_at frσ_3 (c := kR_offX) (by decide) 0
          have c88 := ii_kR_offX hσ 0
          have c89 := ii_kR_offY hσ_77 0
          have c90 := FR_at flσ_77 (c := kR_offY) (by decide) 0
          have c91 := ii_kR_offY hσ_24 0
          have c92 := FR_at flσ_24 (c := kR_offY) (by decide) 0
          have c93 := ii_kR_offY hσ_19 0
          have c94 := FR_at flσ_19 (c := kR_offY) (by decide) 0
          have c95 := ii_kR_offY hσ_3 0
          have c96 := FR_at frσ_3 (c := kR_offY) (by decide) 0
          have c97 := ii_kR_offY hσ 0
          have c98 := p_R_signOf (v_0 := (fR_cross (x_63 - x_39) (x_75 - x_51) (σ_77 kR_offX 0) (σ_77 kR_offY 0)))
          refine wp_lt (fun x_80 e_x_80 => ?_)
          try simp (disch := omega) only [w32_of, w64_of, w8_of] at e_x_80
          have c99 := w32_rng x_80
          refine wp_lt (fun x_84 e_x_84 => ?_)
          try simp (disch := omega) only [w32_of, w64_of, w8_of] at e_x_84
          exact wp_some (x_inl ⟨⟨hσ_77, frσ_77, (by (try dsimp only) <;> first | assumption | omega | ((try simp (disch := omega) only [w32_of, w64_of, w8_of]) <;> first | assumption | omega | (split <;> omega) | (refine And.intro ?_ ?_ <;> split <;> omega)) | omega), (by (try dsimp only) <;> first | assumption | omega | ((try simp (disch := omega) only [w32_of, w64_of, w8_of]) <;> first | assumption | omega | (split <;> omega) | (refine And.intro ?_ ?_ <;> split <;> omega)) | omega)⟩, (by (try dsimp only) <;> first | assumption | omega | ((try simp (disch := omega) only [w32_of, w64_of, w8_of]) <;> first | assumption | omega | (split <;> omega) | (refine And.intro ?_ ?_ <;> split <;> omega)) | omega)⟩)
    · try simp (disch := omega) only [w32_of, w64_of, w8_of, decide_eq_true_eq, decide_eq_false_iff_not, Bool.not_eq_true] at c4
      exact wp_some (x_inr ⟨hσ_3, frσ_3, (by (try dsimp only) <;> first | assumption | omega | ((try simp (disch := omega) only [w32_of, w64_of, w8_of]) <;> first | assumption | omega | (split <;> omega) | (refine And.intro ?_ ?_ <;> split <;> omega)) | omega)⟩)
  rintro ⟨odd_107, i_108, σ_109⟩ _ y101
  try dsimp only at y101 ⊢
  obtain ⟨hσ_109, frσ_109, g100⟩ := y101
  exact wp_some ⟨hσ_109, frσ_109, (by (try dsimp only) <;> first | assumption | omega | ((try simp (disch := omega) only [w32_of, w64_of, w8_of]) <;> first | assumption | omega | (split <;> omega) | (refine And.intro ?_ ?_ <;> split <;> omega)) | omega)⟩
theorem s_R_lineEnds {σ : SG} {shape_0 : Int} {from_0 : Int} {n_0 : Int} (hσ : II σ) (qshape_0 : 0 ≤ shape_0 ∧ shape_0 ≤ 1) (w0 : 0 ≤ from_0) (w1 : 0 ≤ n_0) (w2 : from_0 + n_0 ≤ 67584) : wp_ (fR_lineEnds σ shape_0 from_0 n_0) (fun zz_ => II zz_ ∧ FR [kR_lineEnd, kR_lineEnds] σ zz_) := by
  unfold fR_lineEnds
  have c1 := w32_rng shape_0
  refine wp_rdI (by (try dsimp only) <;> first | assumption | omega | ((try simp (disch := omega) only [w32_of, w64_of, w8_of]) <;> first | assumption | omega | (split <;> omega) | (refine And.intro ?_ ?_ <;> split <;> omega)) | omega) (by (try dsimp only) <;> first | assumption | omega | ((try simp (disch := omega) only [w32_of, w64_of, w8_of]) <;> first | assumption | omega | (split <;> omega) | (refine And.intro ?_ ?_ <;> split <;> omega)) | omega) (fun x_8 e_x_8 => ?_)
  have b_x_8 : 0 ≤ x_8 ∧ x_8 ≤ 2100 := by rw [e_x_8]; exact ii_kR_lineEnds hσ _
  try simp (disch := omega) only [w32_of, w64_of, w8_of] at e_x_8
  have c2 := ii_kR_lineEnds hσ shape_0
  have c4 := w32_rng (x_8 + 2)
  refine wp_if (fun c3 => ?_) (fun c3 => ?_)
  · try simp (disch := omega) only [w32_of, w64_of, w8_of, decide_eq_true_eq, decide_eq_false_iff_not, Bool.not_eq_true] at c3
    exact wp_some ⟨hσ, (FR_refl _ _)⟩
  · try simp (disch := omega) only [w32_of, w64_of, w8_of, decide_eq_true_eq, decide_eq_false_iff_not, Bool.not_eq_true] at c3
    have c6 := w32_rng n_0
    refine wp_if (fun c5 => ?_) (fun c5 => ?_)
    · try simp (disch := omega) only [w32_of, w64_of, w8_of, decide_eq_true_eq, decide_eq_false_iff_not, Bool.not_eq_true] at c5
      exact wp_some ⟨hσ, (FR_refl _ _)⟩
    · try simp (disch := omega) only [w32_of, w64_of, w8_of, decide_eq_true_eq, decide_eq_false_iff_not, Bool.not_eq_true] at c5
      refine wp_rdI (by (try dsimp only) <;> first | assumption | omega | ((try simp (disch := omega) only [w32_of, w64_of, w8_of]) <;> first | assumption | omega | (split <;> omega) | (refine And.intro ?_ ?_ <;> split <;> omega)) | omega) (by (try dsimp only) <;> first | assumption | omega | ((try simp (disch := omega) only [w32_of, w64_of, w8_of]) <;> first | assumption | omega | (split <;> omega) | (refine And.intro ?_ ?_ <;> split <;> omega)) | omega) (fun x_12 e_x_12 => ?_)
      have b_x_12 : 0 ≤ x_12 ∧ x_12 ≤ 2100 := by rw [e_x_12]; exact ii_kR_lineEnds hσ _
      try simp (disch := omega) only [w32_of, w64_of, w8_of] at e_x_12
      have c7 := w32_rng ((2100 * shape_0) + x_12)
      refine wp_waI hσ b_kR_lineEnd (by (try dsimp only) <;> first | assumption | omega | ((try simp (disch := omega) only [w32_of, w64_of, w8_of]) <;> first | assumption | omega | (split <;> omega) | (refine And.intro ?_ ?_ <;> split <;> omega)) | omega) (by (try dsimp only) <;> first | assumption | omega | ((try simp (disch := omega) only [w32_of, w64_of, w8_of]) <;> first | assumption | omega | (split <;> omega) | (refine And.intro ?_ ?_ <;> split <;> omega)) | omega) (by (try dsimp only) <;> first | assumption | omega | ((try simp (disch := omega) only [w32_of, w64_of, w8_of]) <;> first | assumption | omega | (split <;> omega) | (refine And.intro ?_ ?_ <;> split <;> omega)) | omega) (fun σ_14 hσ_14 eσ_14 => ?_)
      try simp (disch := omega) only [w32_of, w64_of, w8_of] at eσ_14
      have flσ_14 := FR_sg eσ_14
      have frσ_14 : FR [kR_lineEnd, kR_lineEnds] σ σ_14 := FR_le flσ_14 (by decide)
      refine wp_rdI (by (try dsimp only) <;> first | assumption | omega | ((try simp (disch := omega) only [w32_of, w64_of, w8_of]) <;> first | assumption | omega | (split <;> omega) | (refine And.intro ?_ ?_ <;> split <;> omega)) | omega) (by (try dsimp only) <;> first | assumption | omega | ((try simp (disch := omega) only [w32_of, w64_of, w8_of]) <;> first | assumption | omega | (split <;> omega) | (refine And.intro ?_ ?_ <;> split <;> omega)) | omega) (fun x_16 e_x_16 => ?_)
      have b_x_16 : 0 ≤ x_16 ∧ x_16 ≤ 2100 := by rw [e_x_16]; exact ii_kR_lineEnds hσ_14 _
      try simp (disch := omega) only [w32_of, w64_of, w8_of] at e_x_16
      have c8 := ii_kR_lineEnds hσ_14 shape_0
      have c9 := FR_at flσ_14 (c := kR_lineEnds) (by decide) shape_0
      have c10 := w32_rng (((2100 * shape_0) + x_16) + 1)
      refine wp_waI hσ_14 b_kR_lineEnd (by (try dsimp only) <;> first | assumption | omega | ((try simp (disch := omega) only [w32_of, w64_of, w8_of]) <;> first | assumption | omega | (split <;> omega) | (refine And.intro ?_ ?_ <;> split <;> omega)) | omega) (by (try dsimp only) <;> first | assumption | omega | ((try simp (disch := omega) only [w32_of, w64_of, w8_of]) <;> first | assumption | omega | (split <;> omega) | (refine And.intro ?_ ?_ <;> split <;> omega)) | omega) (by (try dsimp only) <;> first | assumption | omega | ((try simp (disch := omega) only [w32_of, w64_of, w8_of]) <;> first | assumption | omega | (split <;> omega) | (refine And.intro ?_ ?_ <;> split <;> omega)) | omega) (fun σ_18 hσ_18 eσ_18 => ?_)
      try simp (disch := omega) only [w32_of, w64_of, w8_of] at eσ_18
      have flσ_18 := FR_sg eσ_18
      have frσ_18 : FR [kR_lineEnd, kR_lineEnds] σ σ_18 := FR_tr frσ_14 flσ_18 (by decide) (by decide)
      refine wp_rdI (by (try dsimp only) <;> first | assumption | omega | ((try simp (disch := omega) only [w32_of, w64_of, w8_of]) <;> first | assumption | omega | (split <;> omega) | (refine And.intro ?_ ?_ <;> split <;> omega)) | omega) (by (try dsimp only) <;> first | assumption | omega | ((try simp (disch := omega) only [w32_of, w64_of, w8_of]) <;> first | assumption | omega | (split <;> omega) | (refine And.intro ?_ ?_ <;> split <;> omega)) | omega) (fun x_20 e_x_20 => ?_)
      have b_x_20 : 0 ≤ x_20 ∧ x_20 ≤ 2100 := by rw [e_x_20]; exact ii_kR_lineEnds hσ_18 _
      try simp (disch := omega) only [w32_of, w64_of, w8_of] at e_x_20
      have c11 := ii_kR_lineEnds hσ_18 shape_0
      have c12 := FR_at flσ_18 (c := kR_lineEnds) (by decide) shape_0
      refine wp_waI hσ_18 b_kR_lineEnds (by (try dsimp only) <;> first | assumption | omega | ((try simp (disch := omega) only [w32_of, w64_of, w8_of]) <;> first | assumption | omega | (split <;> omega) | (refine And.intro ?_ ?_ <;> split <;> omega)) | omega) (by (try dsimp only) <;> first | assumption | omega | ((try simp (disch := omega) only [w32_of, w64_of, w8_of]) <;> first | assumption | omega | (split <;> omega) | (refine And.intro ?_ ?_ <;> split <;> omega)) | omega) (by (try dsimp only) <;> first | assumption | omega | ((try simp (disch := omega) only [w32_of, w64_of, w8_of]) <;> first | assumption | omega | (split <;> omega) | (refine And.intro ?_ ?_ <;> split <;> omega)) | omega) (fun σ_22 hσ_22 eσ_22 => ?_)
      try simp (disch := omega) only [w32_of, w64_of, w8_of] at eσ_22
      have flσ_22 := FR_sg eσ_22
      have frσ_22 : FR [kR_lineEnd, kR_lineEnds] σ σ_22 := FR_tr frσ_18 flσ_22 (by decide) (by decide)
      exact wp_some ⟨hσ_22, frσ_22⟩
theorem s_R_rowOfSegments {σ : SG} {shape_0 : Int} {from_0 : Int} {n_0 : Int} {closes_0 : Bool} (hσ : II σ) (qshape_0 : 0 ≤ shape_0 ∧ shape_0 ≤ 1) (w0 : ND σ) (w1 : 0 ≤ from_0) (w2 : 0 ≤ n_0 ∧ n_0 ≤ 2048) (w3 : from_0 + n_0 ≤ 67584) (w4 : σ kR_segments 0 + n_0 ≤ 4200) : wp_ (fR_rowOfSegments σ shape_0 from_0 n_0 closes_0) (fun zz_ => II zz_ ∧ FR [kR_ex, kR_ey, kR_numberOf, kR_ringOf, kR_segments, kR_shapeOf, kR_sx, kR_sy] σ zz_ ∧ (ND zz_) ∧ (zz_ kR_segments 0 ≤ σ kR_segments 0 + n_0) ∧ (σ kR_segments 0 ≤ zz_ kR_segments 0)) := by
  unfold fR_rowOfSegments
  have c1 := ii_kR_segments hσ 0
  refine wp_bd (P := fun rr_ => II rr_.2 ∧ FR [kR_ex, kR_ey, kR_numberOf, kR_ringOf, kR_segments, kR_shapeOf, kR_sx, kR_sy] σ rr_.2 ∧ (ND rr_.2) ∧ (rr_.2 kR_segments 0 ≤ σ kR_segments 0 + n_0) ∧ (σ kR_segments 0 ≤ rr_.2 kR_segments 0) ∧ (0 < n_0 → rr_.2 kR_segments 0 + 1 ≤ σ kR_segments 0 + n_0)) ?_ ?_
  · refine wp_whl (fun ss_ => II ss_.2 ∧ FR [kR_ex, kR_ey, kR_numberOf, kR_ringOf, kR_segments, kR_shapeOf, kR_sx, kR_sy] σ ss_.2 ∧ (0 ≤ ss_.1 ∧ (ss_.1 = 0 ∨ ss_.1 + 1 ≤ n_0)) ∧ (ND ss_.2) ∧ (ss_.2 kR_segments 0 ≤ σ kR_segments 0 + ss_.1) ∧ (σ kR_segments 0 ≤ ss_.2 kR_segments 0)) (fun ss_ => (3000 - ss_.1).toNat) ⟨hσ, (FR_refl _ _), (by (try dsimp only) <;> first | assumption | omega | ((try simp (disch := omega) only [w32_of, w64_of, w8_of]) <;> first | assumption | omega | (split <;> omega) | (refine And.intro ?_ ?_ <;> split <;> omega)) | omega), (by (try dsimp only) <;> (first | assumption | exact nd2)), (by (try dsimp only) <;> first | assumption | omega | ((try simp (disch := omega) only [w32_of, w64_of, w8_of]) <;> first | assumption | omega | (split <;> omega) | (refine And.intro ?_ ?_ <;> split <;> omega)) | omega), (by (try dsimp only) <;> first | assumption | omega | ((try simp (disch := omega) only [w32_of, w64_of, w8_of]) <;> first | assumption | omega | (split <;> omega) | (refine And.intro ?_ ?_ <;> split <;> omega)) | omega)⟩ ?_
    rintro ⟨k_1, σ_2⟩ y5
    try dsimp only at y5 ⊢
    obtain ⟨hσ_2, frσ_2, g2, nd, g3, g4⟩ := y5
    have c7 := w32_rng (k_1 + 1)
    have c8 := w32_rng n_0
    refine wp_if (fun c6 => ?_) (fun c6 => ?_)
    · try simp (disch := omega) only [w32_of, w64_of, w8_of, decide_eq_true_eq, decide_eq_false_iff_not, Bool.not_eq_true] at c6
      refine wp_bd (P := fun rr_ => II rr_ ∧ FR [kR_ex, kR_ey, kR_numberOf, kR_ringOf, kR_segments, kR_shapeOf, kR_sx, kR_sy] σ rr_ ∧ (ND rr_) ∧ (rr_ kR_segments 0 ≤ σ_2 kR_segments 0 + 1) ∧ (σ_2 kR_segments 0 ≤ rr_ kR_segments 0)) ?_ ?_
      · refine wp_bd (v_isSame (τ := σ_2) (p := (from_0 + k_1)) (q := ((from_0 + k_1) + 1)) hσ_2 (by (try dsimp only) <;> first | assumption | omega | ((try simp (disch := omega) only [w32_of, w64_of, w8_of]) <;> first | assumption | omega | (split <;> omega) | (refine And.intro ?_ ?_ <;> split <;> omega)) | omega) (by (try dsimp only) <;> first | assumption | omega | ((try simp (disch := omega) only [w32_of, w64_of, w8_of]) <;> first | assumption | omega | (split <;> omega) | (refine And.intro ?_ ?_ <;> split <;> omega)) | omega) (by (try dsimp only) <;> first | assumption | omega | ((try simp (disch := omega) only [w32_of, w64_of, w8_of]) <;> first | assumption | omega | (split <;> omega) | (refine And.intro ?_ ?_ <;> split <;> omega)) | omega) (by (try dsimp only) <;> first | assumption | omega | ((try simp (disch := omega) only [w32_of, w64_of, w8_of]) <;> first | assumption | omega | (split <;> omega) | (refine And.intro ?_ ?_ <;> split <;> omega)) | omega)) ?_
        rintro x_16 - hsm
        have c9 := ii_kR_xs hσ_2 (from_0 + k_1)
        have c10 := FR_at frσ_2 (c := kR_xs) (by decide) (from_0 + k_1)
        have c11 := ii_kR_xs hσ (from_0 + k_1)
        have c12 := ii_kR_xs hσ_2 ((from_0 + k_1) + 1)
        have c13 := FR_at frσ_2 (c := kR_xs) (by decide) ((from_0 + k_1) + 1)
        have c14 := ii_kR_xs hσ ((from_0 + k_1) + 1)
        have c15 := ii_kR_ys hσ_2 (from_0 + k_1)
        have c16 := FR_at frσ_2 (c := kR_ys) (by decide) (from_0 + k_1)
        have c17 := ii_kR_ys hσ (from_0 + k_1)
        have c18 := ii_kR_ys hσ_2 ((from_0 + k_1) + 1)
        have c19 := FR_at frσ_2 (c := kR_ys) (by decide) ((from_0 + k_1) + 1)
        have c20 := ii_kR_ys hσ ((from_0 + k_1) + 1)
        try simp (disch := omega) only [w32_of, w64_of, w8_of] at hsm
        refine wp_if (fun c21 => ?_) (fun c21 => ?_)
        · have k22 := hsm.mp c21
          try simp (disch := omega) only [w32_of, w64_of, w8_of] at k22
          try simp (disch := omega) only [w32_of, w64_of, w8_of, decide_eq_true_eq, decide_eq_false_iff_not, Bool.not_eq_true] at c21
          have c23 := ii_kR_segments hσ_2 0
          exact wp_some ⟨hσ_2, frσ_2, (by (try dsimp only) <;> (first | exact nd | exact ND_seg sa nd (fun z => by simp_all))), (by (try dsimp only) <;> first | assumption | omega | ((try simp (disch := omega) only [w32_of, w64_of, w8_of]) <;> first | assumption | omega | (split <;> omega) | (refine And.intro ?_ ?_ <;> split <;> omega)) | omega), (by (try dsimp only) <;> first | assumption | omega | ((try simp (disch := omega) only [w32_of, w64_of, w8_of]) <;> first | assumption | omega | (split <;> omega) | (refine And.intro ?_ ?_ <;> split <;> omega)) | omega)⟩
        · have k24 := fun q => c21 (hsm.mpr q)
          try simp (disch := omega) only [w32_of, w64_of, w8_of] at k24
          try simp (disch := omega) only [w32_of, w64_of, w8_of, decide_eq_true_eq, decide_eq_false_iff_not, Bool.not_eq_true] at c21
          have c25 := ii_kR_segments hσ_2 0
          refine wp_bd (v_segment (σ := σ_2) (f := (from_0 + k_1)) (t := ((from_0 + k_1) + 1)) (r := 0) (n := k_1) (s := shape_0) hσ_2 (by (try dsimp only) <;> first | assumption | omega | ((try simp (disch := omega) only [w32_of, w64_of, w8_of]) <;> first | assumption | omega | (split <;> omega) | (refine And.intro ?_ ?_ <;> split <;> omega)) | omega) (by (try dsimp only) <;> first | assumption | omega | ((try simp (disch := omega) only [w32_of, w64_of, w8_of]) <;> first | assumption | omega | (split <;> omega) | (refine And.intro ?_ ?_ <;> split <;> omega)) | omega) (by (try dsimp only) <;> first | assumption | omega | ((try simp (disch := omega) only [w32_of, w64_of, w8_of]) <;> first | assumption | omega | (split <;> omega) | (refine And.intro ?_ ?_ <;> split <;> omega)) | omega) (by (try dsimp only) <;> first | assumption | omega | ((try simp (disch := omega) only [w32_of, w64_of, w8_of]) <;> first | assumption | omega | (split <;> omega) | (refine And.intro ?_ ?_ <;> split <;> omega)) | omega) (by (try dsimp only) <;> first | assumption | omega | ((try simp (disch := omega) only [w32_of, w64_of, w8_of]) <;> first | assumption | omega | (split <;> omega) | (refine And.intro ?_ ?_ <;> split <;> omega)) | omega) (by (try dsimp only) <;> first | assumption | omega | ((try simp (disch := omega) only [w32_of, w64_of, w8_of]) <;> first | assumption | omega | (split <;> omega) | (refine And.intro ?_ ?_ <;> split <;> omega)) | omega) (by (try dsimp only) <;> first | assumption | omega | ((try simp (disch := omega) only [w32_of, w64_of, w8_of]) <;> first | assumption | omega | (split <;> omega) | (refine And.intro ?_ ?_ <;> split <;> omega)) | omega) (by (try dsimp only) <;> first | assumption | omega | ((try simp (disch := omega) only [w32_of, w64_of, w8_of]) <;> first | assumption | omega | (split <;> omega) | (refine And.intro ?_ ?_ <;> split <;> omega)) | omega) (by (try dsimp only) <;> first | assumption | omega | ((try simp (disch := omega) only [w32_of, w64_of, w8_of]) <;> first | assumption | omega | (split <;> omega) | (refine And.intro ?_ ?_ <;> split <;> omega)) | omega) (by (try dsimp only) <;> first | assumption | omega | ((try simp (disch := omega) only [w32_of, w64_of, w8_of]) <;> first | assumption | omega | (split <;> omega) | (refine And.intro ?_ ?_ <;> split <;> omega)) | omega) (by (try dsimp only) <;> first | assumption | omega | ((try simp (disch := omega) only [w32_of, w64_of, w8_of]) <;> first | assumption | omega | (split <;> omega) | (refine And.intro ?_ ?_ <;> split <;> omega)) | omega)) ?_
          rintro σ_20 - ⟨hσ_20, flσ_20, sa⟩
          have frσ_20 : FR [kR_ex, kR_ey, kR_numberOf, kR_ringOf, kR_segments, kR_shapeOf, kR_sx, kR_sy] σ σ_20 := FR_tr frσ_2 flσ_20 (by decide) (by decide)
          try simp (disch := omega) only [w32_of, w64_of, w8_of] at sa
          have sa1 := sa.1
          have c26 := ii_kR_segments hσ_20 0
          exact wp_some ⟨hσ_20, frσ_20, (by (try dsimp only) <;> (first | exact nd | exact ND_seg sa nd (fun z => by simp_all))), (by (try dsimp only) <;> first | assumption | omega | ((try simp (disch := omega) only [w32_of, w64_of, w8_of]) <;> first | assumption | omega | (split <;> omega) | (refine And.intro ?_ ?_ <;> split <;> omega)) | omega), (by (try dsimp only) <;> first | assumption | omega | ((try simp (disch := omega) only [w32_of, w64_of, w8_of]) <;> first | assumption | omega | (split <;> omega) | (refine And.intro ?_ ?_ <;> split <;> omega)) | omega)⟩
      rintro σ_22 _ ⟨hσ_22, frσ_22, nd2, g27, g28⟩
      have c29 := ii_kR_segments hσ_22 0
      exact wp_some (x_inl ⟨⟨hσ_22, frσ_22, (by (try dsimp only) <;> first | assumption | omega | ((try simp (disch := omega) only [w32_of, w64_of, w8_of]) <;> first | assumption | omega | (split <;> omega) | (refine And.intro ?_ ?_ <;> split <;> omega)) | omega), (by (try dsimp only) <;> (first | assumption | exact nd2)), (by (try dsimp only) <;> first | assumption | omega | ((try simp (disch := omega) only [w32_of, w64_of, w8_of]) <;> first | assumption | omega | (split <;> omega) | (refine And.intro ?_ ?_ <;> split <;> omega)) | omega), (by (try dsimp only) <;> first | assumption | omega | ((try simp (disch := omega) only [w32_of, w64_of, w8_of]) <;> first | assumption | omega | (split <;> omega) | (refine And.intro ?_ ?_ <;> split <;> omega)) | omega)⟩, (by (try dsimp only) <;> first | assumption | omega | ((try simp (disch := omega) only [w32_of, w64_of, w8_of]) <;> first | assumption | omega | (split <;> omega) | (refine And.intro ?_ ?_ <;> split <;> omega)) | omega)⟩)
    · try simp (disch := omega) only [w32_of, w64_of, w8_of, decide_eq_true_eq, decide_eq_false_iff_not, Bool.not_eq_true] at c6
      have c30 := ii_kR_segments hσ_2 0
      exact wp_some (x_inr ⟨hσ_2, frσ_2, (by (try dsimp only) <;> (exact nd)), (by (try dsimp only) <;> first | assumption | omega | ((try simp (disch := omega) only [w32_of, w64_of, w8_of]) <;> first | assumption | omega | (split <;> omega) | (refine And.intro ?_ ?_ <;> split <;> omega)) | omega), (by (try dsimp only) <;> first | assumption | omega | ((try simp (disch := omega) only [w32_of, w64_of, w8_of]) <;> first | assumption | omega | (split <;> omega) | (refine And.intro ?_ ?_ <;> split <;> omega)) | omega), (by (try dsimp only) <;> first | assumption | omega | ((try simp (disch := omega) only [w32_of, w64_of, w8_of]) <;> first | assumption | omega | (split <;> omega) | (refine And.intro ?_ ?_ <;> split <;> omega)) | omega)⟩)
  rintro ⟨k_26, σ_27⟩ _ y34
  try dsimp only at y34 ⊢
  obtain ⟨hσ_27, frσ_27, nd, g31, g32, g33⟩ := y34
  refine wp_bd (P := fun rr_ => II rr_ ∧ FR [kR_ex, kR_ey, kR_numberOf, kR_ringOf, kR_segments, kR_shapeOf, kR_sx, kR_sy] σ rr_ ∧ (ND rr_) ∧ (rr_ kR_segments 0 ≤ σ kR_segments 0 + n_0) ∧ (σ kR_segments 0 ≤ rr_ kR_segments 0)) ?_ ?_
  · refine wp_if (fun c35 => ?_) (fun c35 => ?_)
    · try simp (disch := omega) only [w32_of, w64_of, w8_of, decide_eq_true_eq, decide_eq_false_iff_not, Bool.not_eq_true] at c35
      have c37 := w32_rng n_0
      refine wp_if (fun c36 => ?_) (fun c36 => ?_)
      · try simp (disch := omega) only [w32_of, w64_of, w8_of, decide_eq_true_eq, decide_eq_false_iff_not, Bool.not_eq_true] at c36
        refine wp_bd (v_isSame (τ := σ_27) (p := from_0) (q := ((from_0 + n_0) - 1)) hσ_27 (by (try dsimp only) <;> first | assumption | omega | ((try simp (disch := omega) only [w32_of, w64_of, w8_of]) <;> first | assumption | omega | (split <;> omega) | (refine And.intro ?_ ?_ <;> split <;> omega)) | omega) (by (try dsimp only) <;> first | assumption | omega | ((try simp (disch := omega) only [w32_of, w64_of, w8_of]) <;> first | assumption | omega | (split <;> omega) | (refine And.intro ?_ ?_ <;> split <;> omega)) | omega) (by (try dsimp only) <;> first | assumption | omega | ((try simp (disch := omega) only [w32_of, w64_of, w8_of]) <;> first | assumption | omega | (split <;> omega) | (refine And.intro ?_ ?_ <;> split <;> omega)) | omega) (by (try dsimp only) <;> first | assumption | omega | ((try simp (disch := omega) only [w32_of, w64_of, w8_of]) <;> first | assumption | omega | (split <;> omega) | (refine And.intro ?_ ?_ <;> split <;> omega)) | omega)) ?_
        rintro x_45 - hsm
        have c38 := ii_kR_xs hσ_27 from_0
        have c39 := FR_at frσ_27 (c := kR_xs) (by decide) from_0
        have c40 := ii_kR_xs hσ from_0
        have c41 := ii_kR_xs hσ_27 ((from_0 + n_0) - 1)
        have c42 := FR_at frσ_27 (c := kR_xs) (by decide) ((from_0 + n_0) - 1)
        have c43 := ii_kR_xs hσ ((from_0 + n_0) - 1)
        have c44 := ii_kR_ys hσ_27 from_0
        have c45 := FR_at frσ_27 (c := kR_ys) (by decide) from_0
        have c46 := ii_kR_ys hσ from_0
        have c47 := ii_kR_ys hσ_27 ((from_0 + n_0) - 1)
        have c48 := FR_at frσ_27 (c := kR_ys) (by decide) ((from_0 + n_0) - 1)
        have c49 := ii_kR_ys hσ ((from_0 + n_0) - 1)
        try simp (disch := omega) only [w32_of, w64_of, w8_of] at hsm
        refine wp_if (fun c50 => ?_) (fun c50 => ?_)
        · have k51 := hsm.mp c50
          try simp (disch := omega) only [w32_of, w64_of, w8_of] at k51
          try simp (disch := omega) only [w32_of, w64_of, w8_of, decide_eq_true_eq, decide_eq_false_iff_not, Bool.not_eq_true] at c50
          have c52 := ii_kR_segments hσ_27 0
          exact wp_some ⟨hσ_27, frσ_27, (by (try dsimp only) <;> (first | exact nd | exact ND_seg sa nd (fun z => by simp_all))), (by (try dsimp only) <;> first | assumption | omega | ((try simp (disch := omega) only [w32_of, w64_of, w8_of]) <;> first | assumption | omega | (split <;> omega) | (refine And.intro ?_ ?_ <;> split <;> omega)) | omega), (by (try dsimp only) <;> first | assumption | omega | ((try simp (disch := omega) only [w32_of, w64_of, w8_of]) <;> first | assumption | omega | (split <;> omega) | (refine And.intro ?_ ?_ <;> split <;> omega)) | omega)⟩
        · have k53 := fun q => c50 (hsm.mpr q)
          try simp (disch := omega) only [w32_of, w64_of, w8_of] at k53
          try simp (disch := omega) only [w32_of, w64_of, w8_of, decide_eq_true_eq, decide_eq_false_iff_not, Bool.not_eq_true] at c50
          have c54 := ii_kR_segments hσ_27 0
          refine wp_bd (v_segment (σ := σ_27) (f := ((from_0 + n_0) - 1)) (t := from_0) (r := 0) (n := (n_0 - 1)) (s := shape_0) hσ_27 (by (try dsimp only) <;> first | assumption | omega | ((try simp (disch := omega) only [w32_of, w64_of, w8_of]) <;> first | assumption | omega | (split <;> omega) | (refine And.intro ?_ ?_ <;> split <;> omega)) | omega) (by (try dsimp only) <;> first | assumption | omega | ((try simp (disch := omega) only [w32_of, w64_of, w8_of]) <;> first | assumption | omega | (split <;> omega) | (refine And.intro ?_ ?_ <;> split <;> omega)) | omega) (by (try dsimp only) <;> first | assumption | omega | ((try simp (disch := omega) only [w32_of, w64_of, w8_of]) <;> first | assumption | omega | (split <;> omega) | (refine And.intro ?_ ?_ <;> split <;> omega)) | omega) (by (try dsimp only) <;> first | assumption | omega | ((try simp (disch := omega) only [w32_of, w64_of, w8_of]) <;> first | assumption | omega | (split <;> omega) | (refine And.intro ?_ ?_ <;> split <;> omega)) | omega) (by (try dsimp only) <;> first | assumption | omega | ((try simp (disch := omega) only [w32_of, w64_of, w8_of]) <;> first | assumption | omega | (split <;> omega) | (refine And.intro ?_ ?_ <;> split <;> omega)) | omega) (by (try dsimp only) <;> first | assumption | omega | ((try simp (disch := omega) only [w32_of, w64_of, w8_of]) <;> first | assumption | omega | (split <;> omega) | (refine And.intro ?_ ?_ <;> split <;> omega)) | omega) (by (try dsimp only) <;> first | assumption | omega | ((try simp (disch := omega) only [w32_of, w64_of, w8_of]) <;> first | assumption | omega | (split <;> omega) | (refine And.intro ?_ ?_ <;> split <;> omega)) | omega) (by (try dsimp only) <;> first | assumption | omega | ((try simp (disch := omega) only [w32_of, w64_of, w8_of]) <;> first | assumption | omega | (split <;> omega) | (refine And.intro ?_ ?_ <;> split <;> omega)) | omega) (by (try dsimp only) <;> first | assumption | omega | ((try simp (disch := omega) only [w32_of, w64_of, w8_of]) <;> first | assumption | omega | (split <;> omega) | (refine And.intro ?_ ?_ <;> split <;> omega)) | omega) (by (try dsimp only) <;> first | assumption | omega | ((try simp (disch := omega) only [w32_of, w64_of, w8_of]) <;> first | assumption | omega | (split <;> omega) | (refine And.intro ?_ ?_ <;> split <;> omega)) | omega) (by (try dsimp only) <;> first | assumption | omega | ((try simp (disch := omega) only [w32_of, w64_of, w8_of]) <;> first | assumption | omega | (split <;> omega) | (refine And.intro ?_ ?_ <;> split <;> omega)) | omega)) ?_
          rintro σ_49 - ⟨hσ_49, flσ_49, sa⟩
          have frσ_49 : FR [kR_ex, kR_ey, kR_numberOf, kR_ringOf, kR_segments, kR_shapeOf, kR_sx, kR_sy] σ σ_49 := FR_tr frσ_27 flσ_49 (by decide) (by decide)
          try simp (disch := omega) only [w32_of, w64_of, w8_of] at sa
          have sa1 := sa.1
          have c55 := ii_kR_segments hσ_49 0
          exact wp_some ⟨hσ_49, frσ_49, (by (try dsimp only) <;> (first | exact nd | exact ND_seg sa nd (fun z => by simp_all))), (by (try dsimp only) <;> first | assumption | omega | ((try simp (disch := omega) only [w32_of, w64_of, w8_of]) <;> first | assumption | omega | (split <;> omega) | (refine And.intro ?_ ?_ <;> split <;> omega)) | omega), (by (try dsimp only) <;> first | assumption | omega | ((try simp (disch := omega) only [w32_of, w64_of, w8_of]) <;> first | assumption | omega | (split <;> omega) | (refine And.intro ?_ ?_ <;> split <;> omega)) | omega)⟩
      · try simp (disch := omega) only [w32_of, w64_of, w8_of, decide_eq_true_eq, decide_eq_false_iff_not, Bool.not_eq_true] at c36
        have c56 := ii_kR_segments hσ_27 0
        exact wp_some ⟨hσ_27, frσ_27, (by (try dsimp only) <;> (first | exact nd | exact ND_seg sa nd (fun z => by simp_all))), (by (try dsimp only) <;> first | assumption | omega | ((try simp (disch := omega) only [w32_of, w64_of, w8_of]) <;> first | assumption | omega | (split <;> omega) | (refine And.intro ?_ ?_ <;> split <;> omega)) | omega), (by (try dsimp only) <;> first | assumption | omega | ((try simp (disch := omega) only [w32_of, w64_of, w8_of]) <;> first | assumption | omega | (split <;> omega) | (refine And.intro ?_ ?_ <;> split <;> omega)) | omega)⟩
    · try simp (disch := omega) only [w32_of, w64_of, w8_of, decide_eq_true_eq, decide_eq_false_iff_not, Bool.not_eq_true] at c35
      have c57 := ii_kR_segments hσ_27 0
      exact wp_some ⟨hσ_27, frσ_27, (by (try dsimp only) <;> (first | exact nd | exact ND_seg sa nd (fun z => by simp_all))), (by (try dsimp only) <;> first | assumption | omega | ((try simp (disch := omega) only [w32_of, w64_of, w8_of]) <;> first | assumption | omega | (split <;> omega) | (refine And.intro ?_ ?_ <;> split <;> omega)) | omega), (by (try dsimp only) <;> first | assumption | omega | ((try simp (disch := omega) only [w32_of, w64_of, w8_of]) <;> first | assumption | omega | (split <;> omega) | (refine And.intro ?_ ?_ <;> split <;> omega)) | omega)⟩
  rintro σ_53 _ ⟨hσ_53, frσ_53, nd, g58, g59⟩
  have c60 := ii_kR_segments hσ_53 0
  exact wp_some ⟨hσ_53, frσ_53, (by (try dsimp only) <;> (exact nd)), (by (try dsimp only) <;> first | assumption | omega | ((try simp (disch := omega) only [w32_of, w64_of, w8_of]) <;> first | assumption | omega | (split <;> omega) | (refine And.intro ?_ ?_ <;> split <;> omega)) | omega), (by (try dsimp only) <;> first | assumption | omega | ((try simp (disch := omega) only [w32_of, w64_of, w8_of]) <;> first | assumption | omega | (split <;> omega) | (refine And.intro ?_ ?_ <;> split <;> omega)) | omega)⟩
theorem s_R_wholePlace {σ : SG} {x_0 : Int} {y_0 : Int} (hσ : II σ) (w0 : -1000000000 ≤ x_0 ∧ x_0 ≤ 1000000000) (w1 : -1000000000 ≤ y_0 ∧ y_0 ≤ 1000000000) : wp_ (fR_wholePlace σ x_0 y_0) (fun zz_ => II zz_ ∧ FR [kR_baseX, kR_baseY, kR_limbs, kR_sign, kR_w, kR_wayX, kR_wayY] σ zz_ ∧ (R01 zz_)) := by
  unfold fR_wholePlace
  refine wp_wfI hσ b_kR_baseX (by (try dsimp only) <;> first | assumption | omega | ((try simp (disch := omega) only [w32_of, w64_of, w8_of]) <;> first | assumption | omega | (split <;> omega) | (refine And.intro ?_ ?_ <;> split <;> omega)) | omega) (fun σ_1 hσ_1 eσ_1 => ?_)
  try simp (disch := omega) only [w32_of, w64_of, w8_of] at eσ_1
  have flσ_1 := FR_sg eσ_1
  have frσ_1 : FR [kR_baseX, kR_baseY, kR_limbs, kR_sign, kR_w, kR_wayX, kR_wayY] σ σ_1 := FR_le flσ_1 (by decide)
  refine wp_wfI hσ_1 b_kR_baseY (by (try dsimp only) <;> first | assumption | omega | ((try simp (disch := omega) only [w32_of, w64_of, w8_of]) <;> first | assumption | omega | (split <;> omega) | (refine And.intro ?_ ?_ <;> split <;> omega)) | omega) (fun σ_2 hσ_2 eσ_2 => ?_)
  try simp (disch := omega) only [w32_of, w64_of, w8_of] at eσ_2
  have flσ_2 := FR_sg eσ_2
  have frσ_2 : FR [kR_baseX, kR_baseY, kR_limbs, kR_sign, kR_w, kR_wayX, kR_wayY] σ σ_2 := FR_tr frσ_1 flσ_2 (by decide) (by decide)
  refine wp_wfI hσ_2 b_kR_wayX (by (try dsimp only) <;> first | assumption | omega | ((try simp (disch := omega) only [w32_of, w64_of, w8_of]) <;> first | assumption | omega | (split <;> omega) | (refine And.intro ?_ ?_ <;> split <;> omega)) | omega) (fun σ_3 hσ_3 eσ_3 => ?_)
  try simp (disch := omega) only [w32_of, w64_of, w8_of] at eσ_3
  have flσ_3 := FR_sg eσ_3
  have frσ_3 : FR [kR_baseX, kR_baseY, kR_limbs, kR_sign, kR_w, kR_wayX, kR_wayY] σ σ_3 := FR_tr frσ_2 flσ_3 (by decide) (by decide)
  refine wp_wfI hσ_3 b_kR_wayY (by (try dsimp only) <;> first | assumption | omega | ((try simp (disch := omega) only [w32_of, w64_of, w8_of]) <;> first | assumption | omega | (split <;> omega) | (refine And.intro ?_ ?_ <;> split <;> omega)) | omega) (fun σ_4 hσ_4 eσ_4 => ?_)
  try simp (disch := omega) only [w32_of, w64_of, w8_of] at eσ_4
  have flσ_4 := FR_sg eσ_4
  have frσ_4 : FR [kR_baseX, kR_baseY, kR_limbs, kR_sign, kR_w, kR_wayX, kR_wayY] σ σ_4 := FR_tr frσ_3 flσ_4 (by decide) (by decide)
  refine wp_bd (g_set (σ := σ_4) (t := 0) (v := 0) hσ_4 (by (try dsimp only) <;> first | assumption | omega | ((try simp (disch := omega) only [w32_of, w64_of, w8_of]) <;> first | assumption | omega | (split <;> omega) | (refine And.intro ?_ ?_ <;> split <;> omega)) | omega) (by (try dsimp only) <;> first | assumption | omega | ((try simp (disch := omega) only [w32_of, w64_of, w8_of]) <;> first | assumption | omega | (split <;> omega) | (refine And.intro ?_ ?_ <;> split <;> omega)) | omega) (by (try dsimp only) <;> first | assumption | omega | ((try simp (disch := omega) only [w32_of, w64_of, w8_of]) <;> first | assumption | omega | (split <;> omega) | (refine And.intro ?_ ?_ <;> split <;> omega)) | omega) (by (try dsimp only) <;> first | assumption | omega | ((try simp (disch := omega) only [w32_of, w64_of, w8_of]) <;> first | assumption | omega | (split <;> omega) | (refine And.intro ?_ ?_ <;> split <;> omega)) | omega)) ?_
  rintro σ_6 - ⟨hσ_6, flσ_6, g1, g2⟩
  have frσ_6 : FR [kR_baseX, kR_baseY, kR_limbs, kR_sign, kR_w, kR_wayX, kR_wayY] σ σ_6 := FR_tr frσ_4 flσ_6 (by decide) (by decide)
  have rgσ_6_0 : RG σ_6 0 (0) 2 := g1
  have kpσ_6 := g2
  refine wp_bd (g_set (σ := σ_6) (t := 1) (v := 1) hσ_6 (by (try dsimp only) <;> first | assumption | omega | ((try simp (disch := omega) only [w32_of, w64_of, w8_of]) <;> first | assumption | omega | (split <;> omega) | (refine And.intro ?_ ?_ <;> split <;> omega)) | omega) (by (try dsimp only) <;> first | assumption | omega | ((try simp (disch := omega) only [w32_of, w64_of, w8_of]) <;> first | assumption | omega | (split <;> omega) | (refine And.intro ?_ ?_ <;> split <;> omega)) | omega) (by (try dsimp only) <;> first | assumption | omega | ((try simp (disch := omega) only [w32_of, w64_of, w8_of]) <;> first | assumption | omega | (split <;> omega) | (refine And.intro ?_ ?_ <;> split <;> omega)) | omega) (by (try dsimp only) <;> first | assumption | omega | ((try simp (disch := omega) only [w32_of, w64_of, w8_of]) <;> first | assumption | omega | (split <;> omega) | (refine And.intro ?_ ?_ <;> split <;> omega)) | omega)) ?_
  rintro σ_8 - ⟨hσ_8, flσ_8, g3, g4⟩
  have frσ_8 : FR [kR_baseX, kR_baseY, kR_limbs, kR_sign, kR_w, kR_wayX, kR_wayY] σ σ_8 := FR_tr frσ_6 flσ_8 (by decide) (by decide)
  have rgσ_8_1 : RG σ_8 1 (1) 2 := g3
  have kpσ_8 := g4
  have rgσ_8_0 : RG σ_8 0 (0) 2 := g4 0 _ _ (by omega) (by omega) (by omega) rgσ_6_0
  exact wp_some ⟨hσ_8, frσ_8, (by (try dsimp only) <;> (exact ⟨⟨_, RG_le rgσ_8_0 (by decide)⟩, ⟨_, RG_le rgσ_8_1 (by decide)⟩⟩))⟩
theorem s_R_where {σ : SG} {shape_0 : Int} {onEdge_0 : Bool} (hσ : II σ) (qshape_0 : 0 ≤ shape_0 ∧ shape_0 ≤ 1) (w0 : R01 σ) : wp_ (fR_where σ shape_0 onEdge_0) (fun zz_ => II zz_.2 ∧ FR [kR_limbs, kR_offX, kR_offY, kR_sign, kR_w] σ zz_.2 ∧ (R01 zz_.2) ∧ (0 ≤ zz_.1 ∧ zz_.1 ≤ 2)) := by
  unfold fR_where
  refine wp_wfI hσ b_kR_offX (by (try dsimp only) <;> first | assumption | omega | ((try simp (disch := omega) only [w32_of, w64_of, w8_of]) <;> first | assumption | omega | (split <;> omega) | (refine And.intro ?_ ?_ <;> split <;> omega)) | omega) (fun σ_1 hσ_1 eσ_1 => ?_)
  try simp (disch := omega) only [w32_of, w64_of, w8_of] at eσ_1
  have flσ_1 := FR_sg eσ_1
  have frσ_1 : FR [kR_limbs, kR_offX, kR_offY, kR_sign, kR_w] σ σ_1 := FR_le flσ_1 (by decide)
  refine wp_wfI hσ_1 b_kR_offY (by (try dsimp only) <;> first | assumption | omega | ((try simp (disch := omega) only [w32_of, w64_of, w8_of]) <;> first | assumption | omega | (split <;> omega) | (refine And.intro ?_ ?_ <;> split <;> omega)) | omega) (fun σ_2 hσ_2 eσ_2 => ?_)
  try simp (disch := omega) only [w32_of, w64_of, w8_of] at eσ_2
  have flσ_2 := FR_sg eσ_2
  have frσ_2 : FR [kR_limbs, kR_offX, kR_offY, kR_sign, kR_w] σ σ_2 := FR_tr frσ_1 flσ_2 (by decide) (by decide)
  have rr2 : R01 σ_2 := R01_f flσ_2 (by decide) (R01_f flσ_1 (by decide) w0)
  have c1 := w32_rng shape_0
  refine wp_rdI (by (try dsimp only) <;> first | assumption | omega | ((try simp (disch := omega) only [w32_of, w64_of, w8_of]) <;> first | assumption | omega | (split <;> omega) | (refine And.intro ?_ ?_ <;> split <;> omega)) | omega) (by (try dsimp only) <;> first | assumption | omega | ((try simp (disch := omega) only [w32_of, w64_of, w8_of]) <;> first | assumption | omega | (split <;> omega) | (refine And.intro ?_ ?_ <;> split <;> omega)) | omega) (fun x_3 e_x_3 => ?_)
  have b_x_3 : 0 ≤ x_3 ∧ x_3 ≤ 31 := by rw [e_x_3]; exact ii_kR_slotOf hσ_2 _
  rw [FR_at frσ_2 (c := kR_slotOf) (by decide)] at e_x_3
  try simp (disch := omega) only [w32_of, w64_of, w8_of] at e_x_3
  have c2 := ii_kR_slotOf hσ_2 shape_0
  have c3 := FR_at flσ_2 (c := kR_slotOf) (by decide) shape_0
  have c4 := ii_kR_slotOf hσ_1 shape_0
  have c5 := FR_at flσ_1 (c := kR_slotOf) (by decide) shape_0
  have c6 := ii_kR_slotOf hσ shape_0
  refine wp_rdI (by (try dsimp only) <;> first | assumption | omega | ((try simp (disch := omega) only [w32_of, w64_of, w8_of]) <;> first | assumption | omega | (split <;> omega) | (refine And.intro ?_ ?_ <;> split <;> omega)) | omega) (by (try dsimp only) <;> first | assumption | omega | ((try simp (disch := omega) only [w32_of, w64_of, w8_of]) <;> first | assumption | omega | (split <;> omega) | (refine And.intro ?_ ?_ <;> split <;> omega)) | omega) (fun x_5 e_x_5 => ?_)
  have b_x_5 : (-1) ≤ x_5 ∧ x_5 ≤ 2 := by rw [e_x_5]; exact ii_kR_typeOf hσ_2 _
  rw [FR_at frσ_2 (c := kR_typeOf) (by decide)] at e_x_5
  try simp (disch := omega) only [w32_of, w64_of, w8_of] at e_x_5
  have c7 := ii_kR_typeOf hσ_2 shape_0
  have c8 := FR_at flσ_2 (c := kR_typeOf) (by decide) shape_0
  have c9 := ii_kR_typeOf hσ_1 shape_0
  have c10 := FR_at flσ_1 (c := kR_typeOf) (by decide) shape_0
  have c11 := ii_kR_typeOf hσ shape_0
  have c13 := w32_rng x_5
  refine wp_if (fun c12 => ?_) (fun c12 => ?_)
  · try simp (disch := omega) only [w32_of, w64_of, w8_of, decide_eq_true_eq, decide_eq_false_iff_not, Bool.not_eq_true] at c12
    refine wp_bd (P := fun rr_ => II rr_.2.2 ∧ FR [kR_limbs, kR_offX, kR_offY, kR_sign, kR_w] σ rr_.2.2 ∧ (R01 rr_.2.2)) ?_ ?_
    · refine wp_whl (fun ss_ => II ss_.2.2 ∧ FR [kR_limbs, kR_offX, kR_offY, kR_sign, kR_w] σ ss_.2.2 ∧ (2048 * x_3 ≤ ss_.2.1 ∧ ss_.2.1 ≤ 2048 * x_3 + 2048) ∧ (R01 ss_.2.2)) (fun ss_ => (2048 * x_3 + 2050 - ss_.2.1).toNat) ⟨hσ_2, frσ_2, (by (try dsimp only) <;> first | assumption | omega | ((try simp (disch := omega) only [w32_of, w64_of, w8_of]) <;> first | assumption | omega | (split <;> omega) | (refine And.intro ?_ ?_ <;> split <;> omega)) | omega), (by (try dsimp only) <;> first | assumption | omega | ((try simp (disch := omega) only [w32_of, w64_of, w8_of]) <;> first | assumption | omega | (split <;> omega) | (refine And.intro ?_ ?_ <;> split <;> omega)) | omega)⟩ ?_
      rintro ⟨is_8, k_9, σ_10⟩ y16
      try dsimp only at y16 ⊢
      obtain ⟨hσ_10, frσ_10, g14, g15⟩ := y16
      refine wp_if (fun c17 => ?_) (fun c17 => ?_)
      · try simp (disch := omega) only [w32_of, w64_of, w8_of, decide_eq_true_eq, decide_eq_false_iff_not, Bool.not_eq_true] at c17
        exact wp_some (x_inr ⟨hσ_10, frσ_10, (by (try dsimp only) <;> first | assumption | omega | ((try simp (disch := omega) only [w32_of, w64_of, w8_of]) <;> first | assumption | omega | (split <;> omega) | (refine And.intro ?_ ?_ <;> split <;> omega)) | omega)⟩)
      · try simp (disch := omega) only [w32_of, w64_of, w8_of, decide_eq_true_eq, decide_eq_false_iff_not, Bool.not_eq_true] at c17
        refine wp_if (fun c18 => ?_) (fun c18 => ?_)
        · try simp (disch := omega) only [w32_of, w64_of, w8_of, decide_eq_true_eq, decide_eq_false_iff_not, Bool.not_eq_true] at c18
          exact wp_some (x_inr ⟨hσ_10, frσ_10, (by (try dsimp only) <;> first | assumption | omega | ((try simp (disch := omega) only [w32_of, w64_of, w8_of]) <;> first | assumption | omega | (split <;> omega) | (refine And.intro ?_ ?_ <;> split <;> omega)) | omega)⟩)
        · try simp (disch := omega) only [w32_of, w64_of, w8_of, decide_eq_true_eq, decide_eq_false_iff_not, Bool.not_eq_true] at c18
          have c19 := w32_rng x_3
          refine wp_rdI (by (try dsimp only) <;> first | assumption | omega | ((try simp (disch := omega) only [w32_of, w64_of, w8_of]) <;> first | assumption | omega | (split <;> omega) | (refine And.intro ?_ ?_ <;> split <;> omega)) | omega) (by (try dsimp only) <;> first | assumption | omega | ((try simp (disch := omega) only [w32_of, w64_of, w8_of]) <;> first | assumption | omega | (split <;> omega) | (refine And.intro ?_ ?_ <;> split <;> omega)) | omega) (fun x_32 e_x_32 => ?_)
          have b_x_32 : 0 ≤ x_32 ∧ x_32 ≤ 2048 := by rw [e_x_32]; exact ii_kR_pointMany hσ_10 _
          rw [FR_at frσ_10 (c := kR_pointMany) (by decide)] at e_x_32
          try simp (disch := omega) only [w32_of, w64_of, w8_of] at e_x_32
          have c20 := ii_kR_pointMany hσ_10 x_3
          have c21 := FR_at frσ_10 (c := kR_pointMany) (by decide) x_3
          have c22 := ii_kR_pointMany hσ x_3
          have c24 := w32_rng k_9
          have c25 := w32_rng ((2048 * x_3) + x_32)
          refine wp_if (fun c23 => ?_) (fun c23 => ?_)
          · try simp (disch := omega) only [w32_of, w64_of, w8_of, decide_eq_true_eq, decide_eq_false_iff_not, Bool.not_eq_true] at c23
            refine wp_bd (s_R_isHere (σ := σ_10) (point_0 := k_9) hσ_10 (by (try dsimp only) <;> first | assumption | omega | ((try simp (disch := omega) only [w32_of, w64_of, w8_of]) <;> first | assumption | omega | (split <;> omega) | (refine And.intro ?_ ?_ <;> split <;> omega)) | omega) (by (try dsimp only) <;> first | assumption | omega | ((try simp (disch := omega) only [w32_of, w64_of, w8_of]) <;> first | assumption | omega | (split <;> omega) | (refine And.intro ?_ ?_ <;> split <;> omega)) | omega) (by (try dsimp only) <;> first | assumption | omega | ((try simp (disch := omega) only [w32_of, w64_of, w8_of]) <;> first | assumption | omega | (split <;> omega) | (refine And.intro ?_ ?_ <;> split <;> omega)) | omega)) ?_
            rintro ⟨x_37, σ_36⟩ - y27
            try dsimp only at y27 ⊢
            obtain ⟨hσ_36, flσ_36, g26⟩ := y27
            have frσ_36 : FR [kR_limbs, kR_offX, kR_offY, kR_sign, kR_w] σ σ_36 := FR_tr frσ_10 flσ_36 (by decide) (by decide)
            try simp (disch := omega) only [w32_of, w64_of, w8_of] at g26
            exact wp_some (x_inl ⟨⟨hσ_36, frσ_36, (by (try dsimp only) <;> first | assumption | omega | ((try simp (disch := omega) only [w32_of, w64_of, w8_of]) <;> first | assumption | omega | (split <;> omega) | (refine And.intro ?_ ?_ <;> split <;> omega)) | omega), (by (try dsimp only) <;> first | assumption | omega | ((try simp (disch := omega) only [w32_of, w64_of, w8_of]) <;> first | assumption | omega | (split <;> omega) | (refine And.intro ?_ ?_ <;> split <;> omega)) | omega)⟩, (by (try dsimp only) <;> first | assumption | omega | ((try simp (disch := omega) only [w32_of, w64_of, w8_of]) <;> first | assumption | omega | (split <;> omega) | (refine And.intro ?_ ?_ <;> split <;> omega)) | omega)⟩)
          · try simp (disch := omega) only [w32_of, w64_of, w8_of, decide_eq_true_eq, decide_eq_false_iff_not, Bool.not_eq_true] at c23
            exact wp_some (x_inr ⟨hσ_10, frσ_10, (by (try dsimp only) <;> first | assumption | omega | ((try simp (disch := omega) only [w32_of, w64_of, w8_of]) <;> first | assumption | omega | (split <;> omega) | (refine And.intro ?_ ?_ <;> split <;> omega)) | omega)⟩)
    rintro ⟨is_40, k_41, σ_42⟩ _ y29
    try dsimp only at y29 ⊢
    obtain ⟨hσ_42, frσ_42, g28⟩ := y29
    exact wp_some ⟨hσ_42, frσ_42, (by (try dsimp only) <;> first | assumption | omega | ((try simp (disch := omega) only [w32_of, w64_of, w8_of]) <;> first | assumption | omega | (split <;> omega) | (refine And.intro ?_ ?_ <;> split <;> omega)) | omega), (by (try dsimp only) <;> first | assumption | omega | ((try simp (disch := omega) only [w32_of, w64_of, w8_of]) <;> first | assumption | omega | (split <;> omega) | (refine And.intro ?_ ?_ <;> split <;> omega)) | omega)⟩
  · try simp (disch := omega) only [w32_of, w64_of, w8_of, decide_eq_true_eq, decide_eq_false_iff_not, Bool.not_eq_true] at c12
    refine wp_rdI (by (try dsimp only) <;> first | assumption | omega | ((try simp (disch := omega) only [w32_of, w64_of, w8_of]) <;> first | assumption | omega | (split <;> omega) | (refine And.intro ?_ ?_ <;> split <;> omega)) | omega) (by (try dsimp only) <;> first | assumption | omega | ((try simp (disch := omega) only [w32_of, w64_of, w8_of]) <;> first | assumption | omega | (split <;> omega) | (refine And.intro ?_ ?_ <;> split <;> omega)) | omega) (fun x_46 e_x_46 => ?_)
    have b_x_46 : (-1) ≤ x_46 ∧ x_46 ≤ 2 := by rw [e_x_46]; exact ii_kR_typeOf hσ_2 _
    rw [FR_at frσ_2 (c := kR_typeOf) (by decide)] at e_x_46
    try simp (disch := omega) only [w32_of, w64_of, w8_of] at e_x_46
    have c31 := w32_rng x_46
    refine wp_if (fun c30 => ?_) (fun c30 => ?_)
    · try simp (disch := omega) only [w32_of, w64_of, w8_of, decide_eq_true_eq, decide_eq_false_iff_not, Bool.not_eq_true] at c30
      refine wp_bd (P := fun rr_ => II rr_.2.2 ∧ FR [kR_limbs, kR_offX, kR_offY, kR_sign, kR_w] σ rr_.2.2 ∧ (R01 rr_.2.2)) ?_ ?_
      · refine wp_whl (fun ss_ => II ss_.2.2 ∧ FR [kR_limbs, kR_offX, kR_offY, kR_sign, kR_w] σ ss_.2.2 ∧ (0 ≤ ss_.2.1 ∧ ss_.2.1 ≤ 2100) ∧ (R01 ss_.2.2)) (fun ss_ => (2200 - ss_.2.1).toNat) ⟨hσ_2, frσ_2, (by (try dsimp only) <;> first | assumption | omega | ((try simp (disch := omega) only [w32_of, w64_of, w8_of]) <;> first | assumption | omega | (split <;> omega) | (refine And.intro ?_ ?_ <;> split <;> omega)) | omega), (by (try dsimp only) <;> first | assumption | omega | ((try simp (disch := omega) only [w32_of, w64_of, w8_of]) <;> first | assumption | omega | (split <;> omega) | (refine And.intro ?_ ?_ <;> split <;> omega)) | omega)⟩ ?_
        rintro ⟨is_49, k_50, σ_51⟩ y34
        try dsimp only at y34 ⊢
        obtain ⟨hσ_51, frσ_51, g32, g33⟩ := y34
        refine wp_rdI (by (try dsimp only) <;> first | assumption | omega | ((try simp (disch := omega) only [w32_of, w64_of, w8_of]) <;> first | assumption | omega | (split <;> omega) | (refine And.intro ?_ ?_ <;> split <;> omega)) | omega) (by (try dsimp only) <;> first | assumption | omega | ((try simp (disch := omega) only [w32_of, w64_of, w8_of]) <;> first | assumption | omega | (split <;> omega) | (refine And.intro ?_ ?_ <;> split <;> omega)) | omega) (fun x_59 e_x_59 => ?_)
        have b_x_59 : 0 ≤ x_59 ∧ x_59 ≤ 2100 := by rw [e_x_59]; exact ii_kR_lineEnds hσ_51 _
        rw [FR_at frσ_51 (c := kR_lineEnds) (by decide)] at e_x_59
        try simp (disch := omega) only [w32_of, w64_of, w8_of] at e_x_59
        have c35 := ii_kR_lineEnds hσ_51 shape_0
        have c36 := FR_at frσ_51 (c := kR_lineEnds) (by decide) shape_0
        have c37 := ii_kR_lineEnds hσ shape_0
        have c39 := w32_rng k_50
        have c40 := w32_rng x_59
        refine wp_if (fun c38 => ?_) (fun c38 => ?_)
        · try simp (disch := omega) only [w32_of, w64_of, w8_of, decide_eq_true_eq, decide_eq_false_iff_not, Bool.not_eq_true] at c38
          refine wp_bd (P := fun rr_ => II rr_.2 ∧ FR [kR_limbs, kR_offX, kR_offY, kR_sign, kR_w] σ rr_.2 ∧ (R01 rr_.2)) ?_ ?_
          · have c41 := w32_rng ((2100 * shape_0) + k_50)
            refine wp_rdI (by (try dsimp only) <;> first | assumption | omega | ((try simp (disch := omega) only [w32_of, w64_of, w8_of]) <;> first | assumption | omega | (split <;> omega) | (refine And.intro ?_ ?_ <;> split <;> omega)) | omega) (by (try dsimp only) <;> first | assumption | omega | ((try simp (disch := omega) only [w32_of, w64_of, w8_of]) <;> first | assumption | omega | (split <;> omega) | (refine And.intro ?_ ?_ <;> split <;> omega)) | omega) (fun x_62 e_x_62 => ?_)
            have b_x_62 : 0 ≤ x_62 ∧ x_62 ≤ 67583 := by rw [e_x_62]; exact ii_kR_lineEnd hσ_51 _
            rw [FR_at frσ_51 (c := kR_lineEnd) (by decide)] at e_x_62
            try simp (disch := omega) only [w32_of, w64_of, w8_of] at e_x_62
            have c42 := ii_kR_lineEnd hσ_51 ((2100 * shape_0) + k_50)
            have c43 := FR_at frσ_51 (c := kR_lineEnd) (by decide) ((2100 * shape_0) + k_50)
            have c44 := ii_kR_lineEnd hσ ((2100 * shape_0) + k_50)
            refine wp_bd (s_R_isHere (σ := σ_51) (point_0 := x_62) hσ_51 (by (try dsimp only) <;> first | assumption | omega | ((try simp (disch := omega) only [w32_of, w64_of, w8_of]) <;> first | assumption | omega | (split <;> omega) | (refine And.intro ?_ ?_ <;> split <;> omega)) | omega) (by (try dsimp only) <;> first | assumption | omega | ((try simp (disch := omega) only [w32_of, w64_of, w8_of]) <;> first | assumption | omega | (split <;> omega) | (refine And.intro ?_ ?_ <;> split <;> omega)) | omega) (by (try dsimp only) <;> first | assumption | omega | ((try simp (disch := omega) only [w32_of, w64_of, w8_of]) <;> first | assumption | omega | (split <;> omega) | (refine And.intro ?_ ?_ <;> split <;> omega)) | omega)) ?_
            rintro ⟨x_66, σ_65⟩ - y46
            try dsimp only at y46 ⊢
            obtain ⟨hσ_65, flσ_65, g45⟩ := y46
            have frσ_65 : FR [kR_limbs, kR_offX, kR_offY, kR_sign, kR_w] σ σ_65 := FR_tr frσ_51 flσ_65 (by decide) (by decide)
            try simp (disch := omega) only [w32_of, w64_of, w8_of] at g45
            refine wp_if (fun c47 => ?_) (fun c47 => ?_)
            · try simp (disch := omega) only [w32_of, w64_of, w8_of, decide_eq_true_eq, decide_eq_false_iff_not, Bool.not_eq_true] at c47
              exact wp_some ⟨hσ_65, frσ_65, (by (try dsimp only) <;> first | assumption | omega | ((try simp (disch := omega) only [w32_of, w64_of, w8_of]) <;> first | assumption | omega | (split <;> omega) | (refine And.intro ?_ ?_ <;> split <;> omega)) | omega)⟩
            · try simp (disch := omega) only [w32_of, w64_of, w8_of, decide_eq_true_eq, decide_eq_false_iff_not, Bool.not_eq_true] at c47
              exact wp_some ⟨hσ_65, frσ_65, (by (try dsimp only) <;> first | assumption | omega | ((try simp (disch := omega) only [w32_of, w64_of, w8_of]) <;> first | assumption | omega | (split <;> omega) | (refine And.intro ?_ ?_ <;> split <;> omega)) | omega)⟩
          rintro ⟨x_72, σ_73⟩ _ y49
          try dsimp only at y49 ⊢
          obtain ⟨hσ_73, frσ_73, g48⟩ := y49
          exact wp_some (x_inl ⟨⟨hσ_73, frσ_73, (by (try dsimp only) <;> first | assumption | omega | ((try simp (disch := omega) only [w32_of, w64_of, w8_of]) <;> first | assumption | omega | (split <;> omega) | (refine And.intro ?_ ?_ <;> split <;> omega)) | omega), (by (try dsimp only) <;> first | assumption | omega | ((try simp (disch := omega) only [w32_of, w64_of, w8_of]) <;> first | assumption | omega | (split <;> omega) | (refine And.intro ?_ ?_ <;> split <;> omega)) | omega)⟩, (by (try dsimp only) <;> first | assumption | omega | ((try simp (disch := omega) only [w32_of, w64_of, w8_of]) <;> first | assumption | omega | (split <;> omega) | (refine And.intro ?_ ?_ <;> split <;> omega)) | omega)⟩)
        · try simp (disch := omega) only [w32_of, w64_of, w8_of, decide_eq_true_eq, decide_eq_false_iff_not, Bool.not_eq_true] at c38
          exact wp_some (x_inr ⟨hσ_51, frσ_51, (by (try dsimp only) <;> first | assumption | omega | ((try simp (disch := omega) only [w32_of, w64_of, w8_of]) <;> first | assumption | omega | (split <;> omega) | (refine And.intro ?_ ?_ <;> split <;> omega)) | omega)⟩)
      rintro ⟨is_80, k_81, σ_82⟩ _ y51
      try dsimp only at y51 ⊢
      obtain ⟨hσ_82, frσ_82, g50⟩ := y51
      refine wp_if (fun c52 => ?_) (fun c52 => ?_)
      · try simp (disch := omega) only [w32_of, w64_of, w8_of, decide_eq_true_eq, decide_eq_false_iff_not, Bool.not_eq_true] at c52
        exact wp_some ⟨hσ_82, frσ_82, (by (try dsimp only) <;> first | assumption | omega | ((try simp (disch := omega) only [w32_of, w64_of, w8_of]) <;> first | assumption | omega | (split <;> omega) | (refine And.intro ?_ ?_ <;> split <;> omega)) | omega), (by (try dsimp only) <;> first | assumption | omega | ((try simp (disch := omega) only [w32_of, w64_of, w8_of]) <;> first | assumption | omega | (split <;> omega) | (refine And.intro ?_ ?_ <;> split <;> omega)) | omega)⟩
      · try simp (disch := omega) only [w32_of, w64_of, w8_of, decide_eq_true_eq, decide_eq_false_iff_not, Bool.not_eq_true] at c52
        refine wp_bd (P := fun rr_ => (0 ≤ rr_.1 ∧ rr_.1 ≤ 2) ∧ II rr_.2 ∧ FR [kR_limbs, kR_offX, kR_offY, kR_sign, kR_w] σ rr_.2 ∧ (R01 rr_.2)) ?_ ?_
        · refine wp_bd (s_R_isOnSegments (σ := σ_82) (shape_0 := shape_0) hσ_82 (by (try dsimp only) <;> first | assumption | omega | ((try simp (disch := omega) only [w32_of, w64_of, w8_of]) <;> first | assumption | omega | (split <;> omega) | (refine And.intro ?_ ?_ <;> split <;> omega)) | omega) (by (try dsimp only) <;> first | assumption | omega | ((try simp (disch := omega) only [w32_of, w64_of, w8_of]) <;> first | assumption | omega | (split <;> omega) | (refine And.intro ?_ ?_ <;> split <;> omega)) | omega)) ?_
          rintro ⟨x_86, σ_85⟩ - y54
          try dsimp only at y54 ⊢
          obtain ⟨hσ_85, flσ_85, g53⟩ := y54
          have frσ_85 : FR [kR_limbs, kR_offX, kR_offY, kR_sign, kR_w] σ σ_85 := FR_tr frσ_82 flσ_85 (by decide) (by decide)
          try simp (disch := omega) only [w32_of, w64_of, w8_of] at g53
          refine wp_if (fun c55 => ?_) (fun c55 => ?_)
          · try simp (disch := omega) only [w32_of, w64_of, w8_of, decide_eq_true_eq, decide_eq_false_iff_not, Bool.not_eq_true] at c55
            exact wp_some ⟨(by (try dsimp only) <;> first | assumption | omega | ((try simp (disch := omega) only [w32_of, w64_of, w8_of]) <;> first | assumption | omega | (split <;> omega) | (refine And.intro ?_ ?_ <;> split <;> omega)) | omega), hσ_85, frσ_85, (by (try dsimp only) <;> first | assumption | omega | ((try simp (disch := omega) only [w32_of, w64_of, w8_of]) <;> first | assumption | omega | (split <;> omega) | (refine And.intro ?_ ?_ <;> split <;> omega)) | omega)⟩
          · try simp (disch := omega) only [w32_of, w64_of, w8_of, decide_eq_true_eq, decide_eq_false_iff_not, Bool.not_eq_true] at c55
            exact wp_some ⟨(by (try dsimp only) <;> first | assumption | omega | ((try simp (disch := omega) only [w32_of, w64_of, w8_of]) <;> first | assumption | omega | (split <;> omega) | (refine And.intro ?_ ?_ <;> split <;> omega)) | omega), hσ_85, frσ_85, (by (try dsimp only) <;> first | assumption | omega | ((try simp (disch := omega) only [w32_of, w64_of, w8_of]) <;> first | assumption | omega | (split <;> omega) | (refine And.intro ?_ ?_ <;> split <;> omega)) | omega)⟩
        rintro ⟨x_90, σ_91⟩ _ y58
        try dsimp only at y58 ⊢
        obtain ⟨g56, hσ_91, frσ_91, g57⟩ := y58
        exact wp_some ⟨hσ_91, frσ_91, (by (try dsimp only) <;> first | assumption | omega | ((try simp (disch := omega) only [w32_of, w64_of, w8_of]) <;> first | assumption | omega | (split <;> omega) | (refine And.intro ?_ ?_ <;> split <;> omega)) | omega), (by (try dsimp only) <;> first | assumption | omega | ((try simp (disch := omega) only [w32_of, w64_of, w8_of]) <;> first | assumption | omega | (split <;> omega) | (refine And.intro ?_ ?_ <;> split <;> omega)) | omega)⟩
    · try simp (disch := omega) only [w32_of, w64_of, w8_of, decide_eq_true_eq, decide_eq_false_iff_not, Bool.not_eq_true] at c30
      refine wp_bd (s_R_isOnSegments (σ := σ_2) (shape_0 := shape_0) hσ_2 (by (try dsimp only) <;> first | assumption | omega | ((try simp (disch := omega) only [w32_of, w64_of, w8_of]) <;> first | assumption | omega | (split <;> omega) | (refine And.intro ?_ ?_ <;> split <;> omega)) | omega) (by (try dsimp only) <;> first | assumption | omega | ((try simp (disch := omega) only [w32_of, w64_of, w8_of]) <;> first | assumption | omega | (split <;> omega) | (refine And.intro ?_ ?_ <;> split <;> omega)) | omega)) ?_
      rintro ⟨x_99, σ_98⟩ - y60
      try dsimp only at y60 ⊢
      obtain ⟨hσ_98, flσ_98, g59⟩ := y60
      have frσ_98 : FR [kR_limbs, kR_offX, kR_offY, kR_sign, kR_w] σ σ_98 := FR_tr frσ_2 flσ_98 (by decide) (by decide)
      try simp (disch := omega) only [w32_of, w64_of, w8_of] at g59
      refine wp_if (fun c61 => ?_) (fun c61 => ?_)
      · try simp (disch := omega) only [w32_of, w64_of, w8_of, decide_eq_true_eq, decide_eq_false_iff_not, Bool.not_eq_true] at c61
        exact wp_some ⟨hσ_98, frσ_98, (by (try dsimp only) <;> first | assumption | omega | ((try simp (disch := omega) only [w32_of, w64_of, w8_of]) <;> first | assumption | omega | (split <;> omega) | (refine And.intro ?_ ?_ <;> split <;> omega)) | omega), (by (try dsimp only) <;> first | assumption | omega | ((try simp (disch := omega) only [w32_of, w64_of, w8_of]) <;> first | assumption | omega | (split <;> omega) | (refine And.intro ?_ ?_ <;> split <;> omega)) | omega)⟩
      · try simp (disch := omega) only [w32_of, w64_of, w8_of, decide_eq_true_eq, decide_eq_false_iff_not, Bool.not_eq_true] at c61
        refine wp_bd (P := fun rr_ => (0 ≤ rr_.1 ∧ rr_.1 ≤ 2) ∧ II rr_.2 ∧ FR [kR_limbs, kR_offX, kR_offY, kR_sign, kR_w] σ rr_.2 ∧ (R01 rr_.2)) ?_ ?_
        · refine wp_bd (s_R_isOdd (σ := σ_98) (shape_0 := shape_0) hσ_98 (by (try dsimp only) <;> first | assumption | omega | ((try simp (disch := omega) only [w32_of, w64_of, w8_of]) <;> first | assumption | omega | (split <;> omega) | (refine And.intro ?_ ?_ <;> split <;> omega)) | omega) (by (try dsimp only) <;> first | assumption | omega | ((try simp (disch := omega) only [w32_of, w64_of, w8_of]) <;> first | assumption | omega | (split <;> omega) | (refine And.intro ?_ ?_ <;> split <;> omega)) | omega)) ?_
          rintro ⟨x_103, σ_102⟩ - y63
          try dsimp only at y63 ⊢
          obtain ⟨hσ_102, flσ_102, g62⟩ := y63
          have frσ_102 : FR [kR_limbs, kR_offX, kR_offY, kR_sign, kR_w] σ σ_102 := FR_tr frσ_98 flσ_102 (by decide) (by decide)
          try simp (disch := omega) only [w32_of, w64_of, w8_of] at g62
          refine wp_if (fun c64 => ?_) (fun c64 => ?_)
          · try simp (disch := omega) only [w32_of, w64_of, w8_of, decide_eq_true_eq, decide_eq_false_iff_not, Bool.not_eq_true] at c64
            exact wp_some ⟨(by (try dsimp only) <;> first | assumption | omega | ((try simp (disch := omega) only [w32_of, w64_of, w8_of]) <;> first | assumption | omega | (split <;> omega) | (refine And.intro ?_ ?_ <;> split <;> omega)) | omega), hσ_102, frσ_102, (by (try dsimp only) <;> first | assumption | omega | ((try simp (disch := omega) only [w32_of, w64_of, w8_of]) <;> first | assumption | omega | (split <;> omega) | (refine And.intro ?_ ?_ <;> split <;> omega)) | omega)⟩
          · try simp (disch := omega) only [w32_of, w64_of, w8_of, decide_eq_true_eq, decide_eq_false_iff_not, Bool.not_eq_true] at c64
            exact wp_some ⟨(by (try dsimp only) <;> first | assumption | omega | ((try simp (disch := omega) only [w32_of, w64_of, w8_of]) <;> first | assumption | omega | (split <;> omega) | (refine And.intro ?_ ?_ <;> split <;> omega)) | omega), hσ_102, frσ_102, (by (try dsimp only) <;> first | assumption | omega | ((try simp (disch := omega) only [w32_of, w64_of, w8_of]) <;> first | assumption | omega | (split <;> omega) | (refine And.intro ?_ ?_ <;> split <;> omega)) | omega)⟩
        rintro ⟨x_107, σ_108⟩ _ y67
        try dsimp only at y67 ⊢
        obtain ⟨g65, hσ_108, frσ_108, g66⟩ := y67
        exact wp_some ⟨hσ_108, frσ_108, (by (try dsimp only) <;> first | assumption | omega | ((try simp (disch := omega) only [w32_of, w64_of, w8_of]) <;> first | assumption | omega | (split <;> omega) | (refine And.intro ?_ ?_ <;> split <;> omega)) | omega), (by (try dsimp only) <;> first | assumption | omega | ((try simp (disch := omega) only [w32_of, w64_of, w8_of]) <;> first | assumption | omega | (split <;> omega) | (refine And.intro ?_ ?_ <;> split <;> omega)) | omega)⟩
theorem s_R_beside {σ : SG} {shape_0 : Int} {itself_0 : Int} (hσ : II σ) (qshape_0 : 0 ≤ shape_0 ∧ shape_0 ≤ 1) (qitself_0 : 0 ≤ itself_0 ∧ itself_0 ≤ 2) (w0 : R01 σ) (w1 : 0 ≤ itself_0 ∧ itself_0 ≤ 2) : wp_ (fR_beside σ shape_0 itself_0) (fun zz_ => II zz_.2 ∧ FR [kR_hasInside, kR_limbs, kR_sign, kR_w] σ zz_.2 ∧ (R01 zz_.2) ∧ (0 ≤ zz_.1 ∧ zz_.1 ≤ 2)) := by
  unfold fR_beside
  have c1 := w32_rng shape_0
  refine wp_rdI (by (try dsimp only) <;> first | assumption | omega | ((try simp (disch := omega) only [w32_of, w64_of, w8_of]) <;> first | assumption | omega | (split <;> omega) | (refine And.intro ?_ ?_ <;> split <;> omega)) | omega) (by (try dsimp only) <;> first | assumption | omega | ((try simp (disch := omega) only [w32_of, w64_of, w8_of]) <;> first | assumption | omega | (split <;> omega) | (refine And.intro ?_ ?_ <;> split <;> omega)) | omega) (fun x_1 e_x_1 => ?_)
  have b_x_1 : (-1) ≤ x_1 ∧ x_1 ≤ 2 := by rw [e_x_1]; exact ii_kR_typeOf hσ _
  try simp (disch := omega) only [w32_of, w64_of, w8_of] at e_x_1
  have c2 := ii_kR_typeOf hσ shape_0
  have c4 := w32_rng x_1
  refine wp_if (fun c3 => ?_) (fun c3 => ?_)
  · try simp (disch := omega) only [w32_of, w64_of, w8_of, decide_eq_true_eq, decide_eq_false_iff_not, Bool.not_eq_true] at c3
    exact wp_some ⟨hσ, (FR_refl _ _), (by (try dsimp only) <;> first | assumption | omega | ((try simp (disch := omega) only [w32_of, w64_of, w8_of]) <;> first | assumption | omega | (split <;> omega) | (refine And.intro ?_ ?_ <;> split <;> omega)) | omega), (by (try dsimp only) <;> first | assumption | omega | ((try simp (disch := omega) only [w32_of, w64_of, w8_of]) <;> first | assumption | omega | (split <;> omega) | (refine And.intro ?_ ?_ <;> split <;> omega)) | omega)⟩
  · try simp (disch := omega) only [w32_of, w64_of, w8_of, decide_eq_true_eq, decide_eq_false_iff_not, Bool.not_eq_true] at c3
    refine wp_bd (P := fun rr_ => (0 ≤ rr_.1 ∧ rr_.1 ≤ 2) ∧ II rr_.2 ∧ FR [kR_hasInside, kR_limbs, kR_sign, kR_w] σ rr_.2 ∧ (R01 rr_.2)) ?_ ?_
    · have c6 := w32_rng itself_0
      refine wp_if (fun c5 => ?_) (fun c5 => ?_)
      · try simp (disch := omega) only [w32_of, w64_of, w8_of, decide_eq_true_eq, decide_eq_false_iff_not, Bool.not_eq_true] at c5
        refine wp_bd (P := fun rr_ => (0 ≤ rr_.1 ∧ rr_.1 ≤ 2) ∧ II rr_.2 ∧ FR [kR_hasInside, kR_limbs, kR_sign, kR_w] σ rr_.2 ∧ (R01 rr_.2)) ?_ ?_
        · refine wp_bd (s_R_isOdd (σ := σ) (shape_0 := shape_0) hσ (by (try dsimp only) <;> first | assumption | omega | ((try simp (disch := omega) only [w32_of, w64_of, w8_of]) <;> first | assumption | omega | (split <;> omega) | (refine And.intro ?_ ?_ <;> split <;> omega)) | omega) (by (try dsimp only) <;> first | assumption | omega | ((try simp (disch := omega) only [w32_of, w64_of, w8_of]) <;> first | assumption | omega | (split <;> omega) | (refine And.intro ?_ ?_ <;> split <;> omega)) | omega)) ?_
          rintro ⟨x_19, σ_18⟩ - y8
          try dsimp only at y8 ⊢
          obtain ⟨hσ_18, flσ_18, g7⟩ := y8
          have frσ_18 : FR [kR_hasInside, kR_limbs, kR_sign, kR_w] σ σ_18 := FR_le flσ_18 (by decide)
          try simp (disch := omega) only [w32_of, w64_of, w8_of] at g7
          refine wp_if (fun c9 => ?_) (fun c9 => ?_)
          · try simp (disch := omega) only [w32_of, w64_of, w8_of, decide_eq_true_eq, decide_eq_false_iff_not, Bool.not_eq_true] at c9
            exact wp_some ⟨(by (try dsimp only) <;> first | assumption | omega | ((try simp (disch := omega) only [w32_of, w64_of, w8_of]) <;> first | assumption | omega | (split <;> omega) | (refine And.intro ?_ ?_ <;> split <;> omega)) | omega), hσ_18, frσ_18, (by (try dsimp only) <;> first | assumption | omega | ((try simp (disch := omega) only [w32_of, w64_of, w8_of]) <;> first | assumption | omega | (split <;> omega) | (refine And.intro ?_ ?_ <;> split <;> omega)) | omega)⟩
          · try simp (disch := omega) only [w32_of, w64_of, w8_of, decide_eq_true_eq, decide_eq_false_iff_not, Bool.not_eq_true] at c9
            exact wp_some ⟨(by (try dsimp only) <;> first | assumption | omega | ((try simp (disch := omega) only [w32_of, w64_of, w8_of]) <;> first | assumption | omega | (split <;> omega) | (refine And.intro ?_ ?_ <;> split <;> omega)) | omega), hσ_18, frσ_18, (by (try dsimp only) <;> first | assumption | omega | ((try simp (disch := omega) only [w32_of, w64_of, w8_of]) <;> first | assumption | omega | (split <;> omega) | (refine And.intro ?_ ?_ <;> split <;> omega)) | omega)⟩
        rintro ⟨x_23, σ_24⟩ _ y12
        try dsimp only at y12 ⊢
        obtain ⟨g10, hσ_24, frσ_24, g11⟩ := y12
        exact wp_some ⟨(by (try dsimp only) <;> first | assumption | omega | ((try simp (disch := omega) only [w32_of, w64_of, w8_of]) <;> first | assumption | omega | (split <;> omega) | (refine And.intro ?_ ?_ <;> split <;> omega)) | omega), hσ_24, frσ_24, (by (try dsimp only) <;> first | assumption | omega | ((try simp (disch := omega) only [w32_of, w64_of, w8_of]) <;> first | assumption | omega | (split <;> omega) | (refine And.intro ?_ ?_ <;> split <;> omega)) | omega)⟩
      · try simp (disch := omega) only [w32_of, w64_of, w8_of, decide_eq_true_eq, decide_eq_false_iff_not, Bool.not_eq_true] at c5
        exact wp_some ⟨(by (try dsimp only) <;> first | assumption | omega | ((try simp (disch := omega) only [w32_of, w64_of, w8_of]) <;> first | assumption | omega | (split <;> omega) | (refine And.intro ?_ ?_ <;> split <;> omega)) | omega), hσ, (FR_refl _ _), (by (try dsimp only) <;> first | assumption | omega | ((try simp (disch := omega) only [w32_of, w64_of, w8_of]) <;> first | assumption | omega | (split <;> omega) | (refine And.intro ?_ ?_ <;> split <;> omega)) | omega)⟩
    rintro ⟨x_31, σ_32⟩ _ y15
    try dsimp only at y15 ⊢
    obtain ⟨g13, hσ_32, frσ_32, g14⟩ := y15
    refine wp_bd (P := fun rr_ => True) ?_ ?_
    · refine wp_rdI (by (try dsimp only) <;> first | assumption | omega | ((try simp (disch := omega) only [w32_of, w64_of, w8_of]) <;> first | assumption | omega | (split <;> omega) | (refine And.intro ?_ ?_ <;> split <;> omega)) | omega) (by (try dsimp only) <;> first | assumption | omega | ((try simp (disch := omega) only [w32_of, w64_of, w8_of]) <;> first | assumption | omega | (split <;> omega) | (refine And.intro ?_ ?_ <;> split <;> omega)) | omega) (fun x_33 e_x_33 => ?_)
      have b_x_33 : 0 ≤ x_33 ∧ x_33 ≤ 1 := by rw [e_x_33]; exact ii_kR_hasInside hσ_32 _
      try simp (disch := omega) only [w32_of, w64_of, w8_of] at e_x_33
      have c16 := ii_kR_hasInside hσ_32 shape_0
      refine wp_if (fun c17 => ?_) (fun c17 => ?_)
      · try simp (disch := omega) only [w32_of, w64_of, w8_of, decide_eq_true_eq, decide_eq_false_iff_not, Bool.not_eq_true] at c17
        exact wp_some trivial
      · try simp (disch := omega) only [w32_of, w64_of, w8_of, decide_eq_true_eq, decide_eq_false_iff_not, Bool.not_eq_true] at c17
        have c19 := w32_rng x_31
        refine wp_if (fun c18 => ?_) (fun c18 => ?_)
        · try simp (disch := omega) only [w32_of, w64_of, w8_of, decide_eq_true_eq, decide_eq_false_iff_not, Bool.not_eq_true] at c18
          exact wp_some trivial
        · try simp (disch := omega) only [w32_of, w64_of, w8_of, decide_eq_true_eq, decide_eq_false_iff_not, Bool.not_eq_true] at c18
          exact wp_some trivial
    rintro x_40 _ -
    have c20 := bz_bd x_40
    try simp (disch := omega) only [w32_of, w64_of, w8_of] at c20
    refine wp_waI hσ_32 b_kR_hasInside (by (try dsimp only) <;> first | assumption | omega | ((try simp (disch := omega) only [w32_of, w64_of, w8_of]) <;> first | assumption | omega | (split <;> omega) | (refine And.intro ?_ ?_ <;> split <;> omega)) | omega) (by (try dsimp only) <;> first | assumption | omega | ((try simp (disch := omega) only [w32_of, w64_of, w8_of]) <;> first | assumption | omega | (split <;> omega) | (refine And.intro ?_ ?_ <;> split <;> omega)) | omega) (by (try dsimp only) <;> first | assumption | omega | ((try simp (disch := omega) only [w32_of, w64_of, w8_of]) <;> first | assumption | omega | (split <;> omega) | (refine And.intro ?_ ?_ <;> split <;> omega)) | omega) (fun σ_41 hσ_41 eσ_41 => ?_)
    try simp (disch := omega) only [w32_of, w64_of, w8_of] at eσ_41
    have flσ_41 := FR_sg eσ_41
    have frσ_41 : FR [kR_hasInside, kR_limbs, kR_sign, kR_w] σ σ_41 := FR_tr frσ_32 flσ_41 (by decide) (by decide)
    have rr41 : R01 σ_41 := R01_f flσ_41 (by decide) (by assumption)
    exact wp_some ⟨hσ_41, frσ_41, (by (try dsimp only) <;> first | assumption | omega | ((try simp (disch := omega) only [w32_of, w64_of, w8_of]) <;> first | assumption | omega | (split <;> omega) | (refine And.intro ?_ ?_ <;> split <;> omega)) | omega), (by (try dsimp only) <;> first | assumption | omega | ((try simp (disch := omega) only [w32_of, w64_of, w8_of]) <;> first | assumption | omega | (split <;> omega) | (refine And.intro ?_ ?_ <;> split <;> omega)) | omega)⟩
theorem s_R_order {a_0 : Int} {b_0 : Int} {c_0 : Int} {d_0 : Int} (w0 : ¬ w64 b_0 = 0) (w1 : ¬ w64 d_0 = 0) : wp_ (fR_order a_0 b_0 c_0 d_0) (fun zz_ => True) := by
  unfold fR_order
  refine wp_bx (P := fun rr_ => True) ?_ ?_
  · refine wp_whl (fun ss_ => (0 ≤ ss_.2.2.2.2.2 ∧ ss_.2.2.2.2.2 ≤ 200) ∧ (¬ w64 ss_.2.1 = 0) ∧ (¬ w64 ss_.2.2.2.1 = 0)) (fun ss_ => (300 - ss_.2.2.2.2.2).toNat) ⟨(by (try dsimp only) <;> first | assumption | omega | ((try simp (disch := omega) only [w32_of, w64_of, w8_of]) <;> first | assumption | omega | (split <;> omega) | (refine And.intro ?_ ?_ <;> split <;> omega)) | omega), (by (try dsimp only) <;> first | assumption | omega | ((try simp (disch := omega) only [w32_of, w64_of, w8_of]) <;> first | assumption | omega | (split <;> omega) | (refine And.intro ?_ ?_ <;> split <;> omega)) | omega), (by (try dsimp only) <;> first | assumption | omega | ((try simp (disch := omega) only [w32_of, w64_of, w8_of]) <;> first | assumption | omega | (split <;> omega) | (refine And.intro ?_ ?_ <;> split <;> omega)) | omega)⟩ ?_
    rintro ⟨n_1, m_2, p_3, q_4, turned_5, round_6⟩ y4
    try dsimp only at y4 ⊢
    obtain ⟨g1, g2, g3⟩ := y4
    have c6 := w32_rng round_6
    refine wp_if (fun c5 => ?_) (fun c5 => ?_)
    · try simp (disch := omega) only [w32_of, w64_of, w8_of, decide_eq_true_eq, decide_eq_false_iff_not, Bool.not_eq_true] at c5
      have c7 := w64_rng m_2
      refine wp_ck (by (try dsimp only) <;> first | assumption | omega | ((try simp (disch := omega) only [w32_of, w64_of, w8_of]) <;> first | assumption | omega | (split <;> omega) | (refine And.intro ?_ ?_ <;> split <;> omega)) | omega) ?_
      have c8 := w64_rng q_4
      refine wp_ck (by (try dsimp only) <;> first | assumption | omega | ((try simp (disch := omega) only [w32_of, w64_of, w8_of]) <;> first | assumption | omega | (split <;> omega) | (refine And.intro ?_ ?_ <;> split <;> omega)) | omega) ?_
      have c11 := w64_rng (q_ldv n_1 m_2)
      have c13 := w64_rng (q_ldv p_3 q_4)
      refine wp_if (fun c9 => ?_) (fun c9 => ?_)
      · try simp (disch := omega) only [w32_of, w64_of, w8_of, decide_eq_true_eq, decide_eq_false_iff_not, Bool.not_eq_true] at c9
        exact wp_some (x_inr (x_inr trivial))
      · try simp (disch := omega) only [w32_of, w64_of, w8_of, decide_eq_true_eq, decide_eq_false_iff_not, Bool.not_eq_true] at c9
        refine wp_ck (by (try dsimp only) <;> first | assumption | omega | ((try simp (disch := omega) only [w32_of, w64_of, w8_of]) <;> first | assumption | omega | (split <;> omega) | (refine And.intro ?_ ?_ <;> split <;> omega)) | omega) ?_
        refine wp_ck (by (try dsimp only) <;> first | assumption | omega | ((try simp (disch := omega) only [w32_of, w64_of, w8_of]) <;> first | assumption | omega | (split <;> omega) | (refine And.intro ?_ ?_ <;> split <;> omega)) | omega) ?_
        have c16 := w64_rng (q_lrm n_1 m_2)
        have c18 := w64_rng (q_lrm p_3 q_4)
        refine wp_if (fun c14 => ?_) (fun c14 => ?_)
        · try simp (disch := omega) only [w32_of, w64_of, w8_of, decide_eq_true_eq, decide_eq_false_iff_not, Bool.not_eq_true] at c14
          exact wp_some (x_inr (x_inr trivial))
        · try simp (disch := omega) only [w32_of, w64_of, w8_of, decide_eq_true_eq, decide_eq_false_iff_not, Bool.not_eq_true] at c14
          exact wp_some (x_inl ⟨⟨(by (try dsimp only) <;> first | assumption | omega | ((try simp (disch := omega) only [w32_of, w64_of, w8_of]) <;> first | assumption | omega | (split <;> omega) | (refine And.intro ?_ ?_ <;> split <;> omega)) | omega), (by (try dsimp only) <;> first | assumption | omega | ((try simp (disch := omega) only [w32_of, w64_of, w8_of]) <;> first | assumption | omega | (split <;> omega) | (refine And.intro ?_ ?_ <;> split <;> omega)) | omega), (by (try dsimp only) <;> first | assumption | omega | ((try simp (disch := omega) only [w32_of, w64_of, w8_of]) <;> first | assumption | omega | (split <;> omega) | (refine And.intro ?_ ?_ <;> split <;> omega)) | omega)⟩, (by (try dsimp only) <;> first | assumption | omega | ((try simp (disch := omega) only [w32_of, w64_of, w8_of]) <;> first | assumption | omega | (split <;> omega) | (refine And.intro ?_ ?_ <;> split <;> omega)) | omega)⟩)
    · try simp (disch := omega) only [w32_of, w64_of, w8_of, decide_eq_true_eq, decide_eq_false_iff_not, Bool.not_eq_true] at c5
      exact wp_some (x_inr (x_inl trivial))
  rintro ⟨n_37, m_38, p_39, q_40, turned_41, round_42⟩ -
  try dsimp only
  exact wp_some trivial
