theorem s_R_distance {σ : SG} {to_0 : Int} {p_0 : Int} {a_0 : Int} {b_0 : Int} (hσ : II σ) (qto_0 : 11 ≤ to_0 ∧ to_0 ≤ 11) (qp_0 : 1 ≤ p_0 ∧ p_0 ≤ 67582) (qa_0 : 0 ≤ a_0 ∧ a_0 ≤ 67583) (qb_0 : 2 ≤ b_0 ∧ b_0 ≤ 67583) (w0 : 4 ≤ to_0) : wp_ (fR_distance σ to_0 p_0 a_0 b_0) (fun zz_ => II zz_ ∧ FR [kR_limbs, kR_sign, kR_w] σ zz_ ∧ (∃ v, RG zz_ to_0 v 4) ∧ (∀ q v L, 0 ≤ q → q < 20 → q ≠ 2 → q ≠ 3 → q ≠ to_0 → RG σ q v L → RG zz_ q v L)) := by
  unfold fR_distance
  have c1 := w32_rng b_0
  refine wp_rdI (by (try dsimp only) <;> first | assumption | omega | ((try simp (disch := omega) only [w32_of, w64_of, w8_of]) <;> first | assumption | omega | (split <;> omega) | (refine And.intro ?_ ?_ <;> split <;> omega)) | omega) (by (try dsimp only) <;> first | assumption | omega | ((try simp (disch := omega) only [w32_of, w64_of, w8_of]) <;> first | assumption | omega | (split <;> omega) | (refine And.intro ?_ ?_ <;> split <;> omega)) | omega) (fun x_1 e_x_1 => ?_)
  have b_x_1 : (-1000000000) ≤ x_1 ∧ x_1 ≤ 1000000000 := by rw [e_x_1]; exact ii_kR_xs hσ _
  try simp (disch := omega) only [w32_of, w64_of, w8_of] at e_x_1
  have c2 := ii_kR_xs hσ b_0
  have c3 := w32_rng a_0
  refine wp_rdI (by (try dsimp only) <;> first | assumption | omega | ((try simp (disch := omega) only [w32_of, w64_of, w8_of]) <;> first | assumption | omega | (split <;> omega) | (refine And.intro ?_ ?_ <;> split <;> omega)) | omega) (by (try dsimp only) <;> first | assumption | omega | ((try simp (disch := omega) only [w32_of, w64_of, w8_of]) <;> first | assumption | omega | (split <;> omega) | (refine And.intro ?_ ?_ <;> split <;> omega)) | omega) (fun x_3 e_x_3 => ?_)
  have b_x_3 : (-1000000000) ≤ x_3 ∧ x_3 ≤ 1000000000 := by rw [e_x_3]; exact ii_kR_xs hσ _
  try simp (disch := omega) only [w32_of, w64_of, w8_of] at e_x_3
  have c4 := ii_kR_xs hσ a_0
  refine wp_rdI (by (try dsimp only) <;> first | assumption | omega | ((try simp (disch := omega) only [w32_of, w64_of, w8_of]) <;> first | assumption | omega | (split <;> omega) | (refine And.intro ?_ ?_ <;> split <;> omega)) | omega) (by (try dsimp only) <;> first | assumption | omega | ((try simp (disch := omega) only [w32_of, w64_of, w8_of]) <;> first | assumption | omega | (split <;> omega) | (refine And.intro ?_ ?_ <;> split <;> omega)) | omega) (fun x_5 e_x_5 => ?_)
  have b_x_5 : (-1000000000) ≤ x_5 ∧ x_5 ≤ 1000000000 := by rw [e_x_5]; exact ii_kR_ys hσ _
  try simp (disch := omega) only [w32_of, w64_of, w8_of] at e_x_5
  have c5 := ii_kR_ys hσ b_0
  refine wp_rdI (by (try dsimp only) <;> first | assumption | omega | ((try simp (disch := omega) only [w32_of, w64_of, w8_of]) <;> first | assumption | omega | (split <;> omega) | (refine And.intro ?_ ?_ <;> split <;> omega)) | omega) (by (try dsimp only) <;> first | assumption | omega | ((try simp (disch := omega) only [w32_of, w64_of, w8_of]) <;> first | assumption | omega | (split <;> omega) | (refine And.intro ?_ ?_ <;> split <;> omega)) | omega) (fun x_7 e_x_7 => ?_)
  have b_x_7 : (-1000000000) ≤ x_7 ∧ x_7 ≤ 1000000000 := by rw [e_x_7]; exact ii_kR_ys hσ _
  try simp (disch := omega) only [w32_of, w64_of, w8_of] at e_x_7
  have c6 := ii_kR_ys hσ a_0
  have c7 := w32_rng p_0
  refine wp_rdI (by (try dsimp only) <;> first | assumption | omega | ((try simp (disch := omega) only [w32_of, w64_of, w8_of]) <;> first | assumption | omega | (split <;> omega) | (refine And.intro ?_ ?_ <;> split <;> omega)) | omega) (by (try dsimp only) <;> first | assumption | omega | ((try simp (disch := omega) only [w32_of, w64_of, w8_of]) <;> first | assumption | omega | (split <;> omega) | (refine And.intro ?_ ?_ <;> split <;> omega)) | omega) (fun x_9 e_x_9 => ?_)
  have b_x_9 : (-1000000000) ≤ x_9 ∧ x_9 ≤ 1000000000 := by rw [e_x_9]; exact ii_kR_xs hσ _
  try simp (disch := omega) only [w32_of, w64_of, w8_of] at e_x_9
  have c8 := ii_kR_xs hσ p_0
  refine wp_rdI (by (try dsimp only) <;> first | assumption | omega | ((try simp (disch := omega) only [w32_of, w64_of, w8_of]) <;> first | assumption | omega | (split <;> omega) | (refine And.intro ?_ ?_ <;> split <;> omega)) | omega) (by (try dsimp only) <;> first | assumption | omega | ((try simp (disch := omega) only [w32_of, w64_of, w8_of]) <;> first | assumption | omega | (split <;> omega) | (refine And.intro ?_ ?_ <;> split <;> omega)) | omega) (fun x_11 e_x_11 => ?_)
  have b_x_11 : (-1000000000) ≤ x_11 ∧ x_11 ≤ 1000000000 := by rw [e_x_11]; exact ii_kR_xs hσ _
  try simp (disch := omega) only [w32_of, w64_of, w8_of] at e_x_11
  refine wp_rdI (by (try dsimp only) <;> first | assumption | omega | ((try simp (disch := omega) only [w32_of, w64_of, w8_of]) <;> first | assumption | omega | (split <;> omega) | (refine And.intro ?_ ?_ <;> split <;> omega)) | omega) (by (try dsimp only) <;> first | assumption | omega | ((try simp (disch := omega) only [w32_of, w64_of, w8_of]) <;> first | assumption | omega | (split <;> omega) | (refine And.intro ?_ ?_ <;> split <;> omega)) | omega) (fun x_13 e_x_13 => ?_)
  have b_x_13 : (-1000000000) ≤ x_13 ∧ x_13 ≤ 1000000000 := by rw [e_x_13]; exact ii_kR_ys hσ _
  try simp (disch := omega) only [w32_of, w64_of, w8_of] at e_x_13
  have c9 := ii_kR_ys hσ p_0
  refine wp_rdI (by (try dsimp only) <;> first | assumption | omega | ((try simp (disch := omega) only [w32_of, w64_of, w8_of]) <;> first | assumption | omega | (split <;> omega) | (refine And.intro ?_ ?_ <;> split <;> omega)) | omega) (by (try dsimp only) <;> first | assumption | omega | ((try simp (disch := omega) only [w32_of, w64_of, w8_of]) <;> first | assumption | omega | (split <;> omega) | (refine And.intro ?_ ?_ <;> split <;> omega)) | omega) (fun x_15 e_x_15 => ?_)
  have b_x_15 : (-1000000000) ≤ x_15 ∧ x_15 ≤ 1000000000 := by rw [e_x_15]; exact ii_kR_ys hσ _
  try simp (disch := omega) only [w32_of, w64_of, w8_of] at e_x_15
  have c10 := w32_rng x_1
  have c11 := w32_rng x_3
  have c12 := w32_rng x_5
  have c13 := w32_rng x_7
  refine wp_lt (fun x_17 e_x_17 => ?_)
  try simp (disch := omega) only [w32_of, w64_of, w8_of] at e_x_17
  have hs17 : 0 ≤ x_17 ∧ x_17 ≤ 8000000000000000000 := by rw [e_x_17]; exact sqs_b ⟨(by first | omega | ((try simp (disch := omega) only [w32_of]); omega)), (by first | omega | ((try simp (disch := omega) only [w32_of]); omega))⟩ ⟨(by first | omega | ((try simp (disch := omega) only [w32_of]); omega)), (by first | omega | ((try simp (disch := omega) only [w32_of]); omega))⟩
  have c14 := w32_rng x_9
  have c15 := w32_rng x_11
  have c16 := w32_rng x_13
  have c17 := w32_rng x_15
  refine wp_lt (fun x_18 e_x_18 => ?_)
  try simp (disch := omega) only [w32_of, w64_of, w8_of] at e_x_18
  have c19 := w64_rng x_17
  have c20 := w64_rng x_18
  refine wp_if (fun c18 => ?_) (fun c18 => ?_)
  · try simp (disch := omega) only [w32_of, w64_of, w8_of, decide_eq_true_eq, decide_eq_false_iff_not, Bool.not_eq_true] at c18
    have hcr := crR_b (a := (w32 x_1) - (w32 x_3)) (b := (w32 x_5) - (w32 x_7)) (c := (w32 x_9) - (w32 x_11)) (d := (w32 x_13) - (w32 x_15)) ⟨(by first | omega | ((try simp (disch := omega) only [w32_of]); omega)), (by first | omega | ((try simp (disch := omega) only [w32_of]); omega))⟩ ⟨(by first | omega | ((try simp (disch := omega) only [w32_of]); omega)), (by first | omega | ((try simp (disch := omega) only [w32_of]); omega))⟩ ⟨(by first | omega | ((try simp (disch := omega) only [w32_of]); omega)), (by first | omega | ((try simp (disch := omega) only [w32_of]); omega))⟩ ⟨(by first | omega | ((try simp (disch := omega) only [w32_of]); omega)), (by first | omega | ((try simp (disch := omega) only [w32_of]); omega))⟩
    refine wp_bd (g_set (σ := σ) (t := 2) (v := (fR_cross ((w32 x_1) - (w32 x_3)) ((w32 x_5) - (w32 x_7)) ((w32 x_9) - (w32 x_11)) ((w32 x_13) - (w32 x_15)))) hσ (by (try dsimp only) <;> first | assumption | omega | ((try simp (disch := omega) only [w32_of, w64_of, w8_of]) <;> first | assumption | omega | (split <;> omega) | (refine And.intro ?_ ?_ <;> split <;> omega)) | omega) (by (try dsimp only) <;> first | assumption | omega | ((try simp (disch := omega) only [w32_of, w64_of, w8_of]) <;> first | assumption | omega | (split <;> omega) | (refine And.intro ?_ ?_ <;> split <;> omega)) | omega) (by (try dsimp only) <;> first | assumption | omega | ((try simp (disch := omega) only [w32_of, w64_of, w8_of]) <;> first | assumption | omega | (split <;> omega) | (refine And.intro ?_ ?_ <;> split <;> omega)) | omega) (by (try dsimp only) <;> first | assumption | omega | ((try simp (disch := omega) only [w32_of, w64_of, w8_of]) <;> first | assumption | omega | (split <;> omega) | (refine And.intro ?_ ?_ <;> split <;> omega)) | omega)) ?_
    rintro σ_20 - ⟨hσ_20, flσ_20, g21, g22⟩
    have frσ_20 : FR [kR_limbs, kR_sign, kR_w] σ σ_20 := FR_le flσ_20 (by decide)
    have rgσ_20_2 : RG σ_20 2 ((fR_cross ((w32 x_1) - (w32 x_3)) ((w32 x_5) - (w32 x_7)) ((w32 x_9) - (w32 x_11)) ((w32 x_13) - (w32 x_15)))) 2 := g21
    have kpσ_20 := g22
    refine wp_bd (g_times (σ := σ_20) (t := to_0) (a := 2) (b := 2) hσ_20 (by (try dsimp only) <;> first | assumption | omega | ((try simp (disch := omega) only [w32_of, w64_of, w8_of]) <;> first | assumption | omega | (split <;> omega) | (refine And.intro ?_ ?_ <;> split <;> omega)) | omega) (by (try dsimp only) <;> first | assumption | omega | ((try simp (disch := omega) only [w32_of, w64_of, w8_of]) <;> first | assumption | omega | (split <;> omega) | (refine And.intro ?_ ?_ <;> split <;> omega)) | omega) (by (try dsimp only) <;> first | assumption | omega | ((try simp (disch := omega) only [w32_of, w64_of, w8_of]) <;> first | assumption | omega | (split <;> omega) | (refine And.intro ?_ ?_ <;> split <;> omega)) | omega) (by (try dsimp only) <;> first | assumption | omega | ((try simp (disch := omega) only [w32_of, w64_of, w8_of]) <;> first | assumption | omega | (split <;> omega) | (refine And.intro ?_ ?_ <;> split <;> omega)) | omega) (by (try dsimp only) <;> first | assumption | omega | ((try simp (disch := omega) only [w32_of, w64_of, w8_of]) <;> first | assumption | omega | (split <;> omega) | (refine And.intro ?_ ?_ <;> split <;> omega)) | omega) (by (try dsimp only) <;> first | assumption | omega | ((try simp (disch := omega) only [w32_of, w64_of, w8_of]) <;> first | assumption | omega | (split <;> omega) | (refine And.intro ?_ ?_ <;> split <;> omega)) | omega) (by (try dsimp only) <;> first | assumption | omega | ((try simp (disch := omega) only [w32_of, w64_of, w8_of]) <;> first | assumption | omega | (split <;> omega) | (refine And.intro ?_ ?_ <;> split <;> omega)) | omega) (by (try dsimp only) <;> first | assumption | omega | ((try simp (disch := omega) only [w32_of, w64_of, w8_of]) <;> first | assumption | omega | (split <;> omega) | (refine And.intro ?_ ?_ <;> split <;> omega)) | omega) rgσ_20_2 rgσ_20_2 (by decide)) ?_
    rintro σ_22 - ⟨hσ_22, flσ_22, g23, g24⟩
    have frσ_22 : FR [kR_limbs, kR_sign, kR_w] σ σ_22 := FR_tr frσ_20 flσ_22 (by decide) (by decide)
    have rgσ_22_to_0 : RG σ_22 to_0 (((fR_cross ((w32 x_1) - (w32 x_3)) ((w32 x_5) - (w32 x_7)) ((w32 x_9) - (w32 x_11)) ((w32 x_13) - (w32 x_15)))) * ((fR_cross ((w32 x_1) - (w32 x_3)) ((w32 x_5) - (w32 x_7)) ((w32 x_9) - (w32 x_11)) ((w32 x_13) - (w32 x_15))))) 4 := g23
    have kpσ_22 := g24
    have rgσ_22_2 : RG σ_22 2 ((fR_cross ((w32 x_1) - (w32 x_3)) ((w32 x_5) - (w32 x_7)) ((w32 x_9) - (w32 x_11)) ((w32 x_13) - (w32 x_15)))) 2 := g24 2 _ _ (by omega) (by omega) (by omega) rgσ_20_2
    exact wp_some ⟨hσ_22, frσ_22, (by (try dsimp only) <;> (first | exact ⟨_, rgσ_22_to_0⟩ | exact ⟨_, rgσ_54_to_0⟩)), (by (try dsimp only) <;> (first | exact fun q v L a b c d e h => kpσ_22 q v L a b e (kpσ_20 q v L a b c h) | exact fun q v L a b c d e h => kpσ_54 q v L a b e (kpσ_52 q v L a b d (kpσ_49 q v L a b c h))))⟩
  · try simp (disch := omega) only [w32_of, w64_of, w8_of, decide_eq_true_eq, decide_eq_false_iff_not, Bool.not_eq_true] at c18
    refine wp_bd (P := fun rr_ => ((-2000000000) ≤ rr_ ∧ rr_ ≤ 2000000000)) ?_ ?_
    · refine wp_if (fun c25 => ?_) (fun c25 => ?_)
      · try simp (disch := omega) only [w32_of, w64_of, w8_of, decide_eq_true_eq, decide_eq_false_iff_not, Bool.not_eq_true] at c25
        exact wp_some (by (try dsimp only) <;> first | assumption | omega | ((try simp (disch := omega) only [w32_of, w64_of, w8_of]) <;> first | assumption | omega | (split <;> omega) | (refine And.intro ?_ ?_ <;> split <;> omega)) | omega)
      · try simp (disch := omega) only [w32_of, w64_of, w8_of, decide_eq_true_eq, decide_eq_false_iff_not, Bool.not_eq_true] at c25
        refine wp_rdI (by (try dsimp only) <;> first | assumption | omega | ((try simp (disch := omega) only [w32_of, w64_of, w8_of]) <;> first | assumption | omega | (split <;> omega) | (refine And.intro ?_ ?_ <;> split <;> omega)) | omega) (by (try dsimp only) <;> first | assumption | omega | ((try simp (disch := omega) only [w32_of, w64_of, w8_of]) <;> first | assumption | omega | (split <;> omega) | (refine And.intro ?_ ?_ <;> split <;> omega)) | omega) (fun x_30 e_x_30 => ?_)
        have b_x_30 : (-1000000000) ≤ x_30 ∧ x_30 ≤ 1000000000 := by rw [e_x_30]; exact ii_kR_xs hσ _
        try simp (disch := omega) only [w32_of, w64_of, w8_of] at e_x_30
        refine wp_rdI (by (try dsimp only) <;> first | assumption | omega | ((try simp (disch := omega) only [w32_of, w64_of, w8_of]) <;> first | assumption | omega | (split <;> omega) | (refine And.intro ?_ ?_ <;> split <;> omega)) | omega) (by (try dsimp only) <;> first | assumption | omega | ((try simp (disch := omega) only [w32_of, w64_of, w8_of]) <;> first | assumption | omega | (split <;> omega) | (refine And.intro ?_ ?_ <;> split <;> omega)) | omega) (fun x_32 e_x_32 => ?_)
        have b_x_32 : (-1000000000) ≤ x_32 ∧ x_32 ≤ 1000000000 := by rw [e_x_32]; exact ii_kR_xs hσ _
        try simp (disch := omega) only [w32_of, w64_of, w8_of] at e_x_32
        have c26 := w32_rng x_30
        have c27 := w32_rng x_32
        exact wp_some (by (try dsimp only) <;> first | assumption | omega | ((try simp (disch := omega) only [w32_of, w64_of, w8_of]) <;> first | assumption | omega | (split <;> omega) | (refine And.intro ?_ ?_ <;> split <;> omega)) | omega)
    rintro x_35 _ g28
    refine wp_bd (P := fun rr_ => ((-2000000000) ≤ rr_ ∧ rr_ ≤ 2000000000)) ?_ ?_
    · refine wp_if (fun c29 => ?_) (fun c29 => ?_)
      · try simp (disch := omega) only [w32_of, w64_of, w8_of, decide_eq_true_eq, decide_eq_false_iff_not, Bool.not_eq_true] at c29
        exact wp_some (by (try dsimp only) <;> first | assumption | omega | ((try simp (disch := omega) only [w32_of, w64_of, w8_of]) <;> first | assumption | omega | (split <;> omega) | (refine And.intro ?_ ?_ <;> split <;> omega)) | omega)
      · try simp (disch := omega) only [w32_of, w64_of, w8_of, decide_eq_true_eq, decide_eq_false_iff_not, Bool.not_eq_true] at c29
        refine wp_rdI (by (try dsimp only) <;> first | assumption | omega | ((try simp (disch := omega) only [w32_of, w64_of, w8_of]) <;> first | assumption | omega | (split <;> omega) | (refine And.intro ?_ ?_ <;> split <;> omega)) | omega) (by (try dsimp only) <;> first | assumption | omega | ((try simp (disch := omega) only [w32_of, w64_of, w8_of]) <;> first | assumption | omega | (split <;> omega) | (refine And.intro ?_ ?_ <;> split <;> omega)) | omega) (fun x_42 e_x_42 => ?_)
        have b_x_42 : (-1000000000) ≤ x_42 ∧ x_42 ≤ 1000000000 := by rw [e_x_42]; exact ii_kR_ys hσ _
        try simp (disch := omega) only [w32_of, w64_of, w8_of] at e_x_42
        refine wp_rdI (by (try dsimp only) <;> first | assumption | omega | ((try simp (disch := omega) only [w32_of, w64_of, w8_of]) <;> first | assumption | omega | (split <;> omega) | (refine And.intro ?_ ?_ <;> split <;> omega)) | omega) (by (try dsimp only) <;> first | assumption | omega | ((try simp (disch := omega) only [w32_of, w64_of, w8_of]) <;> first | assumption | omega | (split <;> omega) | (refine And.intro ?_ ?_ <;> split <;> omega)) | omega) (fun x_44 e_x_44 => ?_)
        have b_x_44 : (-1000000000) ≤ x_44 ∧ x_44 ≤ 1000000000 := by rw [e_x_44]; exact ii_kR_ys hσ _
        try simp (disch := omega) only [w32_of, w64_of, w8_of] at e_x_44
        have c30 := w32_rng x_42
        have c31 := w32_rng x_44
        exact wp_some (by (try dsimp only) <;> first | assumption | omega | ((try simp (disch := omega) only [w32_of, w64_of, w8_of]) <;> first | assumption | omega | (split <;> omega) | (refine And.intro ?_ ?_ <;> split <;> omega)) | omega)
    rintro x_47 _ g32
    have hsq := sqs_b (a := x_35) (b := x_47) (by omega) (by omega)
    refine wp_bd (g_set (σ := σ) (t := 2) (v := ((x_35 * x_35) + (x_47 * x_47))) hσ (by (try dsimp only) <;> first | assumption | omega | ((try simp (disch := omega) only [w32_of, w64_of, w8_of]) <;> first | assumption | omega | (split <;> omega) | (refine And.intro ?_ ?_ <;> split <;> omega)) | omega) (by (try dsimp only) <;> first | assumption | omega | ((try simp (disch := omega) only [w32_of, w64_of, w8_of]) <;> first | assumption | omega | (split <;> omega) | (refine And.intro ?_ ?_ <;> split <;> omega)) | omega) (by (try dsimp only) <;> first | assumption | omega | ((try simp (disch := omega) only [w32_of, w64_of, w8_of]) <;> first | assumption | omega | (split <;> omega) | (refine And.intro ?_ ?_ <;> split <;> omega)) | omega) (by (try dsimp only) <;> first | assumption | omega | ((try simp (disch := omega) only [w32_of, w64_of, w8_of]) <;> first | assumption | omega | (split <;> omega) | (refine And.intro ?_ ?_ <;> split <;> omega)) | omega)) ?_
    rintro σ_49 - ⟨hσ_49, flσ_49, g33, g34⟩
    have frσ_49 : FR [kR_limbs, kR_sign, kR_w] σ σ_49 := FR_le flσ_49 (by decide)
    have rgσ_49_2 : RG σ_49 2 (((x_35 * x_35) + (x_47 * x_47))) 2 := g33
    have kpσ_49 := g34
    refine wp_bd (g_set (σ := σ_49) (t := 3) (v := (if (0 < (w64 x_17)) then x_17 else 1)) hσ_49 (by (try dsimp only) <;> first | assumption | omega | ((try simp (disch := omega) only [w32_of, w64_of, w8_of]) <;> first | assumption | omega | (split <;> omega) | (refine And.intro ?_ ?_ <;> split <;> omega)) | omega) (by (try dsimp only) <;> first | assumption | omega | ((try simp (disch := omega) only [w32_of, w64_of, w8_of]) <;> first | assumption | omega | (split <;> omega) | (refine And.intro ?_ ?_ <;> split <;> omega)) | omega) (by (try dsimp only) <;> first | assumption | omega | ((try simp (disch := omega) only [w32_of, w64_of, w8_of]) <;> first | assumption | omega | (split <;> omega) | (refine And.intro ?_ ?_ <;> split <;> omega)) | omega) (by (try dsimp only) <;> first | assumption | omega | ((try simp (disch := omega) only [w32_of, w64_of, w8_of]) <;> first | assumption | omega | (split <;> omega) | (refine And.intro ?_ ?_ <;> split <;> omega)) | omega)) ?_
    rintro σ_52 - ⟨hσ_52, flσ_52, g35, g36⟩
    have frσ_52 : FR [kR_limbs, kR_sign, kR_w] σ σ_52 := FR_tr frσ_49 flσ_52 (by decide) (by decide)
    have rgσ_52_3 : RG σ_52 3 ((if (0 < (w64 x_17)) then x_17 else 1)) 2 := g35
    have kpσ_52 := g36
    have rgσ_52_2 : RG σ_52 2 (((x_35 * x_35) + (x_47 * x_47))) 2 := g36 2 _ _ (by omega) (by omega) (by omega) rgσ_49_2
    refine wp_bd (g_times (σ := σ_52) (t := to_0) (a := 2) (b := 3) hσ_52 (by (try dsimp only) <;> first | assumption | omega | ((try simp (disch := omega) only [w32_of, w64_of, w8_of]) <;> first | assumption | omega | (split <;> omega) | (refine And.intro ?_ ?_ <;> split <;> omega)) | omega) (by (try dsimp only) <;> first | assumption | omega | ((try simp (disch := omega) only [w32_of, w64_of, w8_of]) <;> first | assumption | omega | (split <;> omega) | (refine And.intro ?_ ?_ <;> split <;> omega)) | omega) (by (try dsimp only) <;> first | assumption | omega | ((try simp (disch := omega) only [w32_of, w64_of, w8_of]) <;> first | assumption | omega | (split <;> omega) | (refine And.intro ?_ ?_ <;> split <;> omega)) | omega) (by (try dsimp only) <;> first | assumption | omega | ((try simp (disch := omega) only [w32_of, w64_of, w8_of]) <;> first | assumption | omega | (split <;> omega) | (refine And.intro ?_ ?_ <;> split <;> omega)) | omega) (by (try dsimp only) <;> first | assumption | omega | ((try simp (disch := omega) only [w32_of, w64_of, w8_of]) <;> first | assumption | omega | (split <;> omega) | (refine And.intro ?_ ?_ <;> split <;> omega)) | omega) (by (try dsimp only) <;> first | assumption | omega | ((try simp (disch := omega) only [w32_of, w64_of, w8_of]) <;> first | assumption | omega | (split <;> omega) | (refine And.intro ?_ ?_ <;> split <;> omega)) | omega) (by (try dsimp only) <;> first | assumption | omega | ((try simp (disch := omega) only [w32_of, w64_of, w8_of]) <;> first | assumption | omega | (split <;> omega) | (refine And.intro ?_ ?_ <;> split <;> omega)) | omega) (by (try dsimp only) <;> first | assumption | omega | ((try simp (disch := omega) only [w32_of, w64_of, w8_of]) <;> first | assumption | omega | (split <;> omega) | (refine And.intro ?_ ?_ <;> split <;> omega)) | omega) rgσ_52_2 rgσ_52_3 (by decide)) ?_
    rintro σ_54 - ⟨hσ_54, flσ_54, g37, g38⟩
    have frσ_54 : FR [kR_limbs, kR_sign, kR_w] σ σ_54 := FR_tr frσ_52 flσ_54 (by decide) (by decide)
    have rgσ_54_to_0 : RG σ_54 to_0 ((((x_35 * x_35) + (x_47 * x_47))) * ((if (0 < (w64 x_17)) then x_17 else 1))) 4 := g37
    have kpσ_54 := g38
    have rgσ_54_3 : RG σ_54 3 ((if (0 < (w64 x_17)) then x_17 else 1)) 2 := g38 3 _ _ (by omega) (by omega) (by omega) rgσ_52_3
    have rgσ_54_2 : RG σ_54 2 (((x_35 * x_35) + (x_47 * x_47))) 2 := g38 2 _ _ (by omega) (by omega) (by omega) rgσ_52_2
    exact wp_some ⟨hσ_54, frσ_54, (by (try dsimp only) <;> (first | exact ⟨_, rgσ_22_to_0⟩ | exact ⟨_, rgσ_54_to_0⟩)), (by (try dsimp only) <;> (first | exact fun q v L a b c d e h => kpσ_22 q v L a b e (kpσ_20 q v L a b c h) | exact fun q v L a b c d e h => kpσ_54 q v L a b e (kpσ_52 q v L a b d (kpσ_49 q v L a b c h))))⟩
theorem s_R_farthest {σ : SG} {a_0 : Int} {b_0 : Int} {far_0 : Int} (hσ : II σ) (qa_0 : 0 ≤ a_0 ∧ a_0 ≤ 67583) (qb_0 : 0 ≤ b_0 ∧ b_0 ≤ 67583) (qfar_0 : 0 ≤ far_0 ∧ far_0 ≤ 1000000000) (w0 : 0 ≤ a_0) (w1 : a_0 < b_0) (w2 : b_0 < 67584) (w3 : 0 ≤ far_0 ∧ far_0 ≤ 1000000000) (w4 : ∃ v, RG σ 6 v 2) : wp_ (fR_farthest σ a_0 b_0 far_0) (fun zz_ => II zz_.2 ∧ FR [kR_limbs, kR_sign, kR_w] σ zz_.2 ∧ (zz_.1 = -1 ∨ (a_0 < zz_.1 ∧ zz_.1 < b_0)) ∧ (∃ u, RG zz_.2 6 u 2)) := by
  unfold fR_farthest
  obtain ⟨v6, hr6⟩ := w4
  have hff := sq1_b w3
  have c1 := w32_rng b_0
  refine wp_rdI (by (try dsimp only) <;> first | assumption | omega | ((try simp (disch := omega) only [w32_of, w64_of, w8_of]) <;> first | assumption | omega | (split <;> omega) | (refine And.intro ?_ ?_ <;> split <;> omega)) | omega) (by (try dsimp only) <;> first | assumption | omega | ((try simp (disch := omega) only [w32_of, w64_of, w8_of]) <;> first | assumption | omega | (split <;> omega) | (refine And.intro ?_ ?_ <;> split <;> omega)) | omega) (fun x_1 e_x_1 => ?_)
  have b_x_1 : (-1000000000) ≤ x_1 ∧ x_1 ≤ 1000000000 := by rw [e_x_1]; exact ii_kR_xs hσ _
  try simp (disch := omega) only [w32_of, w64_of, w8_of] at e_x_1
  have c2 := ii_kR_xs hσ b_0
  have c3 := w32_rng a_0
  refine wp_rdI (by (try dsimp only) <;> first | assumption | omega | ((try simp (disch := omega) only [w32_of, w64_of, w8_of]) <;> first | assumption | omega | (split <;> omega) | (refine And.intro ?_ ?_ <;> split <;> omega)) | omega) (by (try dsimp only) <;> first | assumption | omega | ((try simp (disch := omega) only [w32_of, w64_of, w8_of]) <;> first | assumption | omega | (split <;> omega) | (refine And.intro ?_ ?_ <;> split <;> omega)) | omega) (fun x_3 e_x_3 => ?_)
  have b_x_3 : (-1000000000) ≤ x_3 ∧ x_3 ≤ 1000000000 := by rw [e_x_3]; exact ii_kR_xs hσ _
  try simp (disch := omega) only [w32_of, w64_of, w8_of] at e_x_3
  have c4 := ii_kR_xs hσ a_0
  refine wp_rdI (by (try dsimp only) <;> first | assumption | omega | ((try simp (disch := omega) only [w32_of, w64_of, w8_of]) <;> first | assumption | omega | (split <;> omega) | (refine And.intro ?_ ?_ <;> split <;> omega)) | omega) (by (try dsimp only) <;> first | assumption | omega | ((try simp (disch := omega) only [w32_of, w64_of, w8_of]) <;> first | assumption | omega | (split <;> omega) | (refine And.intro ?_ ?_ <;> split <;> omega)) | omega) (fun x_5 e_x_5 => ?_)
  have b_x_5 : (-1000000000) ≤ x_5 ∧ x_5 ≤ 1000000000 := by rw [e_x_5]; exact ii_kR_ys hσ _
  try simp (disch := omega) only [w32_of, w64_of, w8_of] at e_x_5
  have c5 := ii_kR_ys hσ b_0
  refine wp_rdI (by (try dsimp only) <;> first | assumption | omega | ((try simp (disch := omega) only [w32_of, w64_of, w8_of]) <;> first | assumption | omega | (split <;> omega) | (refine And.intro ?_ ?_ <;> split <;> omega)) | omega) (by (try dsimp only) <;> first | assumption | omega | ((try simp (disch := omega) only [w32_of, w64_of, w8_of]) <;> first | assumption | omega | (split <;> omega) | (refine And.intro ?_ ?_ <;> split <;> omega)) | omega) (fun x_7 e_x_7 => ?_)
  have b_x_7 : (-1000000000) ≤ x_7 ∧ x_7 ≤ 1000000000 := by rw [e_x_7]; exact ii_kR_ys hσ _
  try simp (disch := omega) only [w32_of, w64_of, w8_of] at e_x_7
  have c6 := ii_kR_ys hσ a_0
  have c7 := w32_rng x_1
  have c8 := w32_rng x_3
  have c9 := w32_rng x_5
  have c10 := w32_rng x_7
  refine wp_lt (fun x_9 e_x_9 => ?_)
  try simp (disch := omega) only [w32_of, w64_of, w8_of] at e_x_9
  have hs9 : 0 ≤ x_9 ∧ x_9 ≤ 8000000000000000000 := by rw [e_x_9]; exact sqs_b ⟨(by first | omega | ((try simp (disch := omega) only [w32_of]); omega)), (by first | omega | ((try simp (disch := omega) only [w32_of]); omega))⟩ ⟨(by first | omega | ((try simp (disch := omega) only [w32_of]); omega)), (by first | omega | ((try simp (disch := omega) only [w32_of]); omega))⟩
  refine wp_bd (g_set (σ := σ) (t := 4) (v := (far_0 * far_0)) hσ (by (try dsimp only) <;> first | assumption | omega | ((try simp (disch := omega) only [w32_of, w64_of, w8_of]) <;> first | assumption | omega | (split <;> omega) | (refine And.intro ?_ ?_ <;> split <;> omega)) | omega) (by (try dsimp only) <;> first | assumption | omega | ((try simp (disch := omega) only [w32_of, w64_of, w8_of]) <;> first | assumption | omega | (split <;> omega) | (refine And.intro ?_ ?_ <;> split <;> omega)) | omega) (by (try dsimp only) <;> first | assumption | omega | ((try simp (disch := omega) only [w32_of, w64_of, w8_of]) <;> first | assumption | omega | (split <;> omega) | (refine And.intro ?_ ?_ <;> split <;> omega)) | omega) (by (try dsimp only) <;> first | assumption | omega | ((try simp (disch := omega) only [w32_of, w64_of, w8_of]) <;> first | assumption | omega | (split <;> omega) | (refine And.intro ?_ ?_ <;> split <;> omega)) | omega)) ?_
  rintro σ_11 - ⟨hσ_11, flσ_11, g11, g12⟩
  have frσ_11 : FR [kR_limbs, kR_sign, kR_w] σ σ_11 := FR_le flσ_11 (by decide)
  have rgσ_11_4 : RG σ_11 4 ((far_0 * far_0)) 2 := g11
  have kpσ_11 := g12
  have rgσ_11_6 : RG σ_11 6 (v6) 2 := g12 6 _ _ (by omega) (by omega) (by omega) hr6
  have c13 := w64_rng x_9
  refine wp_bd (g_set (σ := σ_11) (t := 5) (v := (if (0 < (w64 x_9)) then x_9 else 1)) hσ_11 (by (try dsimp only) <;> first | assumption | omega | ((try simp (disch := omega) only [w32_of, w64_of, w8_of]) <;> first | assumption | omega | (split <;> omega) | (refine And.intro ?_ ?_ <;> split <;> omega)) | omega) (by (try dsimp only) <;> first | assumption | omega | ((try simp (disch := omega) only [w32_of, w64_of, w8_of]) <;> first | assumption | omega | (split <;> omega) | (refine And.intro ?_ ?_ <;> split <;> omega)) | omega) (by (try dsimp only) <;> first | assumption | omega | ((try simp (disch := omega) only [w32_of, w64_of, w8_of]) <;> first | assumption | omega | (split <;> omega) | (refine And.intro ?_ ?_ <;> split <;> omega)) | omega) (by (try dsimp only) <;> first | assumption | omega | ((try simp (disch := omega) only [w32_of, w64_of, w8_of]) <;> first | assumption | omega | (split <;> omega) | (refine And.intro ?_ ?_ <;> split <;> omega)) | omega)) ?_
  rintro σ_14 - ⟨hσ_14, flσ_14, g14, g15⟩
  have frσ_14 : FR [kR_limbs, kR_sign, kR_w] σ σ_14 := FR_tr frσ_11 flσ_14 (by decide) (by decide)
  have rgσ_14_5 : RG σ_14 5 ((if (0 < (w64 x_9)) then x_9 else 1)) 2 := g14
  have kpσ_14 := g15
  have rgσ_14_4 : RG σ_14 4 ((far_0 * far_0)) 2 := g15 4 _ _ (by omega) (by omega) (by omega) rgσ_11_4
  have rgσ_14_6 : RG σ_14 6 (v6) 2 := g15 6 _ _ (by omega) (by omega) (by omega) rgσ_11_6
  refine wp_bd (g_times (σ := σ_14) (t := 10) (a := 4) (b := 5) hσ_14 (by (try dsimp only) <;> first | assumption | omega | ((try simp (disch := omega) only [w32_of, w64_of, w8_of]) <;> first | assumption | omega | (split <;> omega) | (refine And.intro ?_ ?_ <;> split <;> omega)) | omega) (by (try dsimp only) <;> first | assumption | omega | ((try simp (disch := omega) only [w32_of, w64_of, w8_of]) <;> first | assumption | omega | (split <;> omega) | (refine And.intro ?_ ?_ <;> split <;> omega)) | omega) (by (try dsimp only) <;> first | assumption | omega | ((try simp (disch := omega) only [w32_of, w64_of, w8_of]) <;> first | assumption | omega | (split <;> omega) | (refine And.intro ?_ ?_ <;> split <;> omega)) | omega) (by (try dsimp only) <;> first | assumption | omega | ((try simp (disch := omega) only [w32_of, w64_of, w8_of]) <;> first | assumption | omega | (split <;> omega) | (refine And.intro ?_ ?_ <;> split <;> omega)) | omega) (by (try dsimp only) <;> first | assumption | omega | ((try simp (disch := omega) only [w32_of, w64_of, w8_of]) <;> first | assumption | omega | (split <;> omega) | (refine And.intro ?_ ?_ <;> split <;> omega)) | omega) (by (try dsimp only) <;> first | assumption | omega | ((try simp (disch := omega) only [w32_of, w64_of, w8_of]) <;> first | assumption | omega | (split <;> omega) | (refine And.intro ?_ ?_ <;> split <;> omega)) | omega) (by (try dsimp only) <;> first | assumption | omega | ((try simp (disch := omega) only [w32_of, w64_of, w8_of]) <;> first | assumption | omega | (split <;> omega) | (refine And.intro ?_ ?_ <;> split <;> omega)) | omega) (by (try dsimp only) <;> first | assumption | omega | ((try simp (disch := omega) only [w32_of, w64_of, w8_of]) <;> first | assumption | omega | (split <;> omega) | (refine And.intro ?_ ?_ <;> split <;> omega)) | omega) rgσ_14_4 rgσ_14_5 (by decide)) ?_
  rintro σ_16 - ⟨hσ_16, flσ_16, g16, g17⟩
  have frσ_16 : FR [kR_limbs, kR_sign, kR_w] σ σ_16 := FR_tr frσ_14 flσ_16 (by decide) (by decide)
  have rgσ_16_10 : RG σ_16 10 (((far_0 * far_0)) * ((if (0 < (w64 x_9)) then x_9 else 1))) 4 := g16
  have kpσ_16 := g17
  have rgσ_16_5 : RG σ_16 5 ((if (0 < (w64 x_9)) then x_9 else 1)) 2 := g17 5 _ _ (by omega) (by omega) (by omega) rgσ_14_5
  have rgσ_16_4 : RG σ_16 4 ((far_0 * far_0)) 2 := g17 4 _ _ (by omega) (by omega) (by omega) rgσ_14_4
  have rgσ_16_6 : RG σ_16 6 (v6) 2 := g17 6 _ _ (by omega) (by omega) (by omega) rgσ_14_6
  refine wp_bd (P := fun rr_ => II rr_.2.2 ∧ FR [kR_limbs, kR_sign, kR_w] σ rr_.2.2 ∧ (rr_.1 = -1 ∨ (a_0 < rr_.1 ∧ rr_.1 < b_0)) ∧ (∃ v, RG rr_.2.2 6 v 2)) ?_ ?_
  · refine wp_whl (fun ss_ => II ss_.2.2 ∧ FR [kR_limbs, kR_sign, kR_w] σ ss_.2.2 ∧ (ss_.1 = -1 ∨ (a_0 < ss_.1 ∧ ss_.1 < b_0)) ∧ (a_0 + 1 ≤ ss_.2.1 ∧ ss_.2.1 ≤ b_0) ∧ (∃ v, RG ss_.2.2 10 v 5) ∧ (∃ v, RG ss_.2.2 6 v 2)) (fun ss_ => (b_0 - ss_.2.1).toNat) ⟨hσ_16, frσ_16, (by (try dsimp only) <;> first | assumption | omega | ((try simp (disch := omega) only [w32_of, w64_of, w8_of]) <;> first | assumption | omega | (split <;> omega) | (refine And.intro ?_ ?_ <;> split <;> omega)) | omega), (by (try dsimp only) <;> first | assumption | omega | ((try simp (disch := omega) only [w32_of, w64_of, w8_of]) <;> first | assumption | omega | (split <;> omega) | (refine And.intro ?_ ?_ <;> split <;> omega)) | omega), (by (try dsimp only) <;> (first | exact ⟨_, RG_le rgσ_16_10 (by decide)⟩ | exact ⟨_, rgσ_31_10⟩ | exact ⟨_, rgσ_37_10⟩)), (by (try dsimp only) <;> (first | exact ⟨_, rgσ_16_6⟩ | exact ⟨_, rgσ_37_6⟩ | exact ⟨_, rgσ_31_6⟩))⟩ ?_
    rintro ⟨best_17, k_18, σ_19⟩ y20
    try dsimp only at y20 ⊢
    obtain ⟨hσ_19, frσ_19, g18, g19, h10, h6⟩ := y20
    obtain ⟨v10, r10⟩ := id h10
    obtain ⟨v6b, r6b⟩ := id h6
    have c22 := w32_rng k_18
    refine wp_if (fun c21 => ?_) (fun c21 => ?_)
    · try simp (disch := omega) only [w32_of, w64_of, w8_of, decide_eq_true_eq, decide_eq_false_iff_not, Bool.not_eq_true] at c21
      refine wp_bd (s_R_distance (σ := σ_19) (to_0 := 11) (p_0 := k_18) (a_0 := a_0) (b_0 := b_0) hσ_19 (by (try dsimp only) <;> first | assumption | omega | ((try simp (disch := omega) only [w32_of, w64_of, w8_of]) <;> first | assumption | omega | (split <;> omega) | (refine And.intro ?_ ?_ <;> split <;> omega)) | omega) (by (try dsimp only) <;> first | assumption | omega | ((try simp (disch := omega) only [w32_of, w64_of, w8_of]) <;> first | assumption | omega | (split <;> omega) | (refine And.intro ?_ ?_ <;> split <;> omega)) | omega) (by (try dsimp only) <;> first | assumption | omega | ((try simp (disch := omega) only [w32_of, w64_of, w8_of]) <;> first | assumption | omega | (split <;> omega) | (refine And.intro ?_ ?_ <;> split <;> omega)) | omega) (by (try dsimp only) <;> first | assumption | omega | ((try simp (disch := omega) only [w32_of, w64_of, w8_of]) <;> first | assumption | omega | (split <;> omega) | (refine And.intro ?_ ?_ <;> split <;> omega)) | omega) (by (try dsimp only) <;> first | assumption | omega | ((try simp (disch := omega) only [w32_of, w64_of, w8_of]) <;> first | assumption | omega | (split <;> omega) | (refine And.intro ?_ ?_ <;> split <;> omega)) | omega)) ?_
      rintro σ_29 - ⟨hσ_29, flσ_29, gd, gk⟩
      have frσ_29 : FR [kR_limbs, kR_sign, kR_w] σ σ_29 := FR_tr frσ_19 flσ_29 (by decide) (by decide)
      try simp (disch := omega) only [w32_of, w64_of, w8_of] at gd
      try simp (disch := omega) only [w32_of, w64_of, w8_of] at gk
      obtain ⟨v11, r11⟩ := gd
      have r10b := gk 10 v10 5 (by decide) (by decide) (by decide) (by decide) (by decide) r10
      have r6c := gk 6 v6b 2 (by decide) (by decide) (by decide) (by decide) (by decide) r6b
      refine wp_bd (g_add (σ := σ_29) (t := 12) (a := 11) (b := 10) (less := true) hσ_29 (by (try dsimp only) <;> first | assumption | omega | ((try simp (disch := omega) only [w32_of, w64_of, w8_of]) <;> first | assumption | omega | (split <;> omega) | (refine And.intro ?_ ?_ <;> split <;> omega)) | omega) (by (try dsimp only) <;> first | assumption | omega | ((try simp (disch := omega) only [w32_of, w64_of, w8_of]) <;> first | assumption | omega | (split <;> omega) | (refine And.intro ?_ ?_ <;> split <;> omega)) | omega) (by (try dsimp only) <;> first | assumption | omega | ((try simp (disch := omega) only [w32_of, w64_of, w8_of]) <;> first | assumption | omega | (split <;> omega) | (refine And.intro ?_ ?_ <;> split <;> omega)) | omega) (by (try dsimp only) <;> first | assumption | omega | ((try simp (disch := omega) only [w32_of, w64_of, w8_of]) <;> first | assumption | omega | (split <;> omega) | (refine And.intro ?_ ?_ <;> split <;> omega)) | omega) (by (try dsimp only) <;> first | assumption | omega | ((try simp (disch := omega) only [w32_of, w64_of, w8_of]) <;> first | assumption | omega | (split <;> omega) | (refine And.intro ?_ ?_ <;> split <;> omega)) | omega) (by (try dsimp only) <;> first | assumption | omega | ((try simp (disch := omega) only [w32_of, w64_of, w8_of]) <;> first | assumption | omega | (split <;> omega) | (refine And.intro ?_ ?_ <;> split <;> omega)) | omega) (RG_le r11 (by decide : (4 : Int) ≤ 5)) (RG_le r10b (by decide : (5 : Int) ≤ 5)) (by decide)) ?_
      rintro σ_31 - ⟨hσ_31, flσ_31, g23, g24⟩
      have frσ_31 : FR [kR_limbs, kR_sign, kR_w] σ σ_31 := FR_tr frσ_29 flσ_31 (by decide) (by decide)
      have rgσ_31_12 : RG σ_31 12 ((v11) - (v10)) 6 := g23
      have kpσ_31 := g24
      have rgσ_31_11 : RG σ_31 11 (v11) 4 := g24 11 _ _ (by omega) (by omega) (by omega) r11
      have rgσ_31_10 : RG σ_31 10 (v10) 5 := g24 10 _ _ (by omega) (by omega) (by omega) r10b
      have rgσ_31_6 : RG σ_31 6 (v6b) 2 := g24 6 _ _ (by omega) (by omega) (by omega) r6c
      refine wp_rdI (by (try dsimp only) <;> first | assumption | omega | ((try simp (disch := omega) only [w32_of, w64_of, w8_of]) <;> first | assumption | omega | (split <;> omega) | (refine And.intro ?_ ?_ <;> split <;> omega)) | omega) (by (try dsimp only) <;> first | assumption | omega | ((try simp (disch := omega) only [w32_of, w64_of, w8_of]) <;> first | assumption | omega | (split <;> omega) | (refine And.intro ?_ ?_ <;> split <;> omega)) | omega) (fun x_32 e_x_32 => ?_)
      have b_x_32 : (-1) ≤ x_32 ∧ x_32 ≤ 1 := by rw [e_x_32]; exact ii_kR_sign hσ_31 _
      try simp (disch := omega) only [w32_of, w64_of, w8_of] at e_x_32
      have c25 := ii_kR_sign hσ_31 12
      have c27 := w32_rng x_32
      refine wp_if (fun c26 => ?_) (fun c26 => ?_)
      · try simp (disch := omega) only [w32_of, w64_of, w8_of, decide_eq_true_eq, decide_eq_false_iff_not, Bool.not_eq_true] at c26
        exact wp_some (x_inl ⟨⟨hσ_31, frσ_31, (by (try dsimp only) <;> first | assumption | omega | ((try simp (disch := omega) only [w32_of, w64_of, w8_of]) <;> first | assumption | omega | (split <;> omega) | (refine And.intro ?_ ?_ <;> split <;> omega)) | omega), (by (try dsimp only) <;> first | assumption | omega | ((try simp (disch := omega) only [w32_of, w64_of, w8_of]) <;> first | assumption | omega | (split <;> omega) | (refine And.intro ?_ ?_ <;> split <;> omega)) | omega), (by (try dsimp only) <;> (first | exact ⟨_, RG_le rgσ_16_10 (by decide)⟩ | exact ⟨_, rgσ_31_10⟩ | exact ⟨_, rgσ_37_10⟩)), (by (try dsimp only) <;> (first | exact ⟨_, rgσ_16_6⟩ | exact ⟨_, rgσ_37_6⟩ | exact ⟨_, rgσ_31_6⟩))⟩, (by (try dsimp only) <;> first | assumption | omega | ((try simp (disch := omega) only [w32_of, w64_of, w8_of]) <;> first | assumption | omega | (split <;> omega) | (refine And.intro ?_ ?_ <;> split <;> omega)) | omega)⟩)
      · try simp (disch := omega) only [w32_of, w64_of, w8_of, decide_eq_true_eq, decide_eq_false_iff_not, Bool.not_eq_true] at c26
        refine wp_bd (g_add (σ := σ_31) (t := 10) (a := 11) (b := 6) (less := false) hσ_31 (by (try dsimp only) <;> first | assumption | omega | ((try simp (disch := omega) only [w32_of, w64_of, w8_of]) <;> first | assumption | omega | (split <;> omega) | (refine And.intro ?_ ?_ <;> split <;> omega)) | omega) (by (try dsimp only) <;> first | assumption | omega | ((try simp (disch := omega) only [w32_of, w64_of, w8_of]) <;> first | assumption | omega | (split <;> omega) | (refine And.intro ?_ ?_ <;> split <;> omega)) | omega) (by (try dsimp only) <;> first | assumption | omega | ((try simp (disch := omega) only [w32_of, w64_of, w8_of]) <;> first | assumption | omega | (split <;> omega) | (refine And.intro ?_ ?_ <;> split <;> omega)) | omega) (by (try dsimp only) <;> first | assumption | omega | ((try simp (disch := omega) only [w32_of, w64_of, w8_of]) <;> first | assumption | omega | (split <;> omega) | (refine And.intro ?_ ?_ <;> split <;> omega)) | omega) (by (try dsimp only) <;> first | assumption | omega | ((try simp (disch := omega) only [w32_of, w64_of, w8_of]) <;> first | assumption | omega | (split <;> omega) | (refine And.intro ?_ ?_ <;> split <;> omega)) | omega) (by (try dsimp only) <;> first | assumption | omega | ((try simp (disch := omega) only [w32_of, w64_of, w8_of]) <;> first | assumption | omega | (split <;> omega) | (refine And.intro ?_ ?_ <;> split <;> omega)) | omega) (RG_le rgσ_31_11 (by decide : (4 : Int) ≤ 4)) (RG_le rgσ_31_6 (by decide : (2 : Int) ≤ 4)) (by decide)) ?_
        rintro σ_37 - ⟨hσ_37, flσ_37, g28, g29⟩
        have frσ_37 : FR [kR_limbs, kR_sign, kR_w] σ σ_37 := FR_tr frσ_31 flσ_37 (by decide) (by decide)
        have rgσ_37_10 : RG σ_37 10 ((v11) + (v6b)) 5 := g28
        have kpσ_37 := g29
        have rgσ_37_12 : RG σ_37 12 ((v11) - (v10)) 6 := g29 12 _ _ (by omega) (by omega) (by omega) rgσ_31_12
        have rgσ_37_11 : RG σ_37 11 (v11) 4 := g29 11 _ _ (by omega) (by omega) (by omega) rgσ_31_11
        have rgσ_37_6 : RG σ_37 6 (v6b) 2 := g29 6 _ _ (by omega) (by omega) (by omega) rgσ_31_6
        exact wp_some (x_inl ⟨⟨hσ_37, frσ_37, (by (try dsimp only) <;> first | assumption | omega | ((try simp (disch := omega) only [w32_of, w64_of, w8_of]) <;> first | assumption | omega | (split <;> omega) | (refine And.intro ?_ ?_ <;> split <;> omega)) | omega), (by (try dsimp only) <;> first | assumption | omega | ((try simp (disch := omega) only [w32_of, w64_of, w8_of]) <;> first | assumption | omega | (split <;> omega) | (refine And.intro ?_ ?_ <;> split <;> omega)) | omega), (by (try dsimp only) <;> (first | exact ⟨_, RG_le rgσ_16_10 (by decide)⟩ | exact ⟨_, rgσ_31_10⟩ | exact ⟨_, rgσ_37_10⟩)), (by (try dsimp only) <;> (first | exact ⟨_, rgσ_16_6⟩ | exact ⟨_, rgσ_37_6⟩ | exact ⟨_, rgσ_31_6⟩))⟩, (by (try dsimp only) <;> first | assumption | omega | ((try simp (disch := omega) only [w32_of, w64_of, w8_of]) <;> first | assumption | omega | (split <;> omega) | (refine And.intro ?_ ?_ <;> split <;> omega)) | omega)⟩)
    · try simp (disch := omega) only [w32_of, w64_of, w8_of, decide_eq_true_eq, decide_eq_false_iff_not, Bool.not_eq_true] at c21
      exact wp_some (x_inr ⟨hσ_19, frσ_19, (by (try dsimp only) <;> first | assumption | omega | ((try simp (disch := omega) only [w32_of, w64_of, w8_of]) <;> first | assumption | omega | (split <;> omega) | (refine And.intro ?_ ?_ <;> split <;> omega)) | omega), (by (try dsimp only) <;> (exact h6))⟩)
  rintro ⟨best_40, k_41, σ_42⟩ _ y31
  try dsimp only at y31 ⊢
  obtain ⟨hσ_42, frσ_42, g30, h6⟩ := y31
  exact wp_some ⟨hσ_42, frσ_42, (by (try dsimp only) <;> first | assumption | omega | ((try simp (disch := omega) only [w32_of, w64_of, w8_of]) <;> first | assumption | omega | (split <;> omega) | (refine And.intro ?_ ?_ <;> split <;> omega)) | omega), (by (try dsimp only) <;> (exact h6))⟩
theorem s_R_thins {σ : SG} {from_0 : Int} {n_0 : Int} {far_0 : Int} (hσ : II σ) (qfar_0 : 0 ≤ far_0 ∧ far_0 ≤ 1000000000) (w0 : ∃ s, 0 ≤ s ∧ s ≤ 31 ∧ 2048 * s ≤ from_0 ∧ from_0 + n_0 ≤ 2048 * s + 2048) (w1 : 0 ≤ n_0) (w2 : 0 ≤ far_0 ∧ far_0 ≤ 1000000000) : wp_ (fR_thins σ from_0 n_0 far_0) (fun zz_ => II zz_ ∧ FR [kR_limbs, kR_sign, kR_spanFrom, kR_spanTo, kR_stays, kR_w] σ zz_) := by
  unfold fR_thins
  obtain ⟨s, w3, w4, w5, w6⟩ := w0
  have hqd := q_idv2048 (x := from_0) (by omega) (by omega)
  refine wp_bd (P := fun rr_ => (0 ≤ rr_.1 ∧ rr_.1 ≤ 2147483647) ∧ II rr_.2 ∧ FR [kR_limbs, kR_sign, kR_spanFrom, kR_spanTo, kR_stays, kR_w] σ rr_.2) ?_ ?_
  · refine wp_whl (fun ss_ => (0 ≤ ss_.1 ∧ ss_.1 ≤ 2147483647) ∧ II ss_.2 ∧ FR [kR_limbs, kR_sign, kR_spanFrom, kR_spanTo, kR_stays, kR_w] σ ss_.2 ∧ (ss_.1 ≤ n_0)) (fun ss_ => (2147483648 - ss_.1).toNat) ⟨(by (try dsimp only) <;> first | assumption | omega | ((try simp (disch := omega) only [w32_of, w64_of, w8_of]) <;> first | assumption | omega | (split <;> omega) | (refine And.intro ?_ ?_ <;> split <;> omega)) | omega), hσ, (FR_refl _ _), (by (try dsimp only) <;> first | assumption | omega | ((try simp (disch := omega) only [w32_of, w64_of, w8_of]) <;> first | assumption | omega | (split <;> omega) | (refine And.intro ?_ ?_ <;> split <;> omega)) | omega)⟩ ?_
    rintro ⟨k_1, σ_2⟩ y3
    try dsimp only at y3 ⊢
    obtain ⟨g1, hσ_2, frσ_2, g2⟩ := y3
    have c5 := w32_rng k_1
    have c6 := w32_rng n_0
    refine wp_if (fun c4 => ?_) (fun c4 => ?_)
    · try simp (disch := omega) only [w32_of, w64_of, w8_of, decide_eq_true_eq, decide_eq_false_iff_not, Bool.not_eq_true] at c4
      have c7 := w32_rng (n_0 - 1)
      have c8 := bz_bd (decide (((w32 k_1) = 0) ∨ ((w32 k_1) = (w32 (n_0 - 1)))))
      try simp (disch := omega) only [w32_of, w64_of, w8_of] at c8
      have c9 := q_idv_bd from_0 2048 (by (try dsimp only) <;> first | assumption | omega | ((try simp (disch := omega) only [w32_of, w64_of, w8_of]) <;> first | assumption | omega | (split <;> omega) | (refine And.intro ?_ ?_ <;> split <;> omega)) | omega) (by (try dsimp only) <;> first | assumption | omega | ((try simp (disch := omega) only [w32_of, w64_of, w8_of]) <;> first | assumption | omega | (split <;> omega) | (refine And.intro ?_ ?_ <;> split <;> omega)) | omega)
      try simp (disch := omega) only [w32_of, w64_of, w8_of] at c9
      have c10 := w32_rng ((from_0 - ((q_idv from_0 2048) * 2048)) + k_1)
      refine wp_waI hσ_2 b_kR_stays (by (try dsimp only) <;> first | assumption | omega | ((try simp (disch := omega) only [w32_of, w64_of, w8_of]) <;> first | assumption | omega | (split <;> omega) | (refine And.intro ?_ ?_ <;> split <;> omega)) | omega) (by (try dsimp only) <;> first | assumption | omega | ((try simp (disch := omega) only [w32_of, w64_of, w8_of]) <;> first | assumption | omega | (split <;> omega) | (refine And.intro ?_ ?_ <;> split <;> omega)) | omega) (by (try dsimp only) <;> first | assumption | omega | ((try simp (disch := omega) only [w32_of, w64_of, w8_of]) <;> first | assumption | omega | (split <;> omega) | (refine And.intro ?_ ?_ <;> split <;> omega)) | omega) (fun σ_12 hσ_12 eσ_12 => ?_)
      try simp (disch := omega) only [w32_of, w64_of, w8_of] at eσ_12
      have flσ_12 := FR_sg eσ_12
      have frσ_12 : FR [kR_limbs, kR_sign, kR_spanFrom, kR_spanTo, kR_stays, kR_w] σ σ_12 := FR_tr frσ_2 flσ_12 (by decide) (by decide)
      exact wp_some (x_inl ⟨⟨(by (try dsimp only) <;> first | assumption | omega | ((try simp (disch := omega) only [w32_of, w64_of, w8_of]) <;> first | assumption | omega | (split <;> omega) | (refine And.intro ?_ ?_ <;> split <;> omega)) | omega), hσ_12, frσ_12, (by (try dsimp only) <;> first | assumption | omega | ((try simp (disch := omega) only [w32_of, w64_of, w8_of]) <;> first | assumption | omega | (split <;> omega) | (refine And.intro ?_ ?_ <;> split <;> omega)) | omega)⟩, (by (try dsimp only) <;> first | assumption | omega | ((try simp (disch := omega) only [w32_of, w64_of, w8_of]) <;> first | assumption | omega | (split <;> omega) | (refine And.intro ?_ ?_ <;> split <;> omega)) | omega)⟩)
    · try simp (disch := omega) only [w32_of, w64_of, w8_of, decide_eq_true_eq, decide_eq_false_iff_not, Bool.not_eq_true] at c4
      exact wp_some (x_inr ⟨(by (try dsimp only) <;> first | assumption | omega | ((try simp (disch := omega) only [w32_of, w64_of, w8_of]) <;> first | assumption | omega | (split <;> omega) | (refine And.intro ?_ ?_ <;> split <;> omega)) | omega), hσ_2, frσ_2⟩)
  rintro ⟨k_18, σ_19⟩ _ y12
  try dsimp only at y12 ⊢
  obtain ⟨g11, hσ_19, frσ_19⟩ := y12
  refine wp_bd (g_set (σ := σ_19) (t := 6) (v := 0) hσ_19 (by (try dsimp only) <;> first | assumption | omega | ((try simp (disch := omega) only [w32_of, w64_of, w8_of]) <;> first | assumption | omega | (split <;> omega) | (refine And.intro ?_ ?_ <;> split <;> omega)) | omega) (by (try dsimp only) <;> first | assumption | omega | ((try simp (disch := omega) only [w32_of, w64_of, w8_of]) <;> first | assumption | omega | (split <;> omega) | (refine And.intro ?_ ?_ <;> split <;> omega)) | omega) (by (try dsimp only) <;> first | assumption | omega | ((try simp (disch := omega) only [w32_of, w64_of, w8_of]) <;> first | assumption | omega | (split <;> omega) | (refine And.intro ?_ ?_ <;> split <;> omega)) | omega) (by (try dsimp only) <;> first | assumption | omega | ((try simp (disch := omega) only [w32_of, w64_of, w8_of]) <;> first | assumption | omega | (split <;> omega) | (refine And.intro ?_ ?_ <;> split <;> omega)) | omega)) ?_
  rintro σ_21 - ⟨hσ_21, flσ_21, g13, g14⟩
  have frσ_21 : FR [kR_limbs, kR_sign, kR_spanFrom, kR_spanTo, kR_stays, kR_w] σ σ_21 := FR_tr frσ_19 flσ_21 (by decide) (by decide)
  have rgσ_21_6 : RG σ_21 6 (0) 2 := g13
  have kpσ_21 := g14
  refine wp_bd (P := fun rr_ => II rr_.2 ∧ FR [kR_limbs, kR_sign, kR_spanFrom, kR_spanTo, kR_stays, kR_w] σ rr_.2 ∧ (0 ≤ rr_.1 ∧ rr_.1 ≤ 1 ∧ rr_.1 ≤ n_0) ∧ (∃ v, RG rr_.2 6 v 2) ∧ (∀ i, 0 ≤ i → i < rr_.1 → from_0 + i ≤ rr_.2 kR_spanFrom i ∧ rr_.2 kR_spanFrom i < rr_.2 kR_spanTo i ∧ rr_.2 kR_spanTo i ≤ from_0 + n_0 - 1)) ?_ ?_
  · have c16 := w32_rng n_0
    refine wp_if (fun c15 => ?_) (fun c15 => ?_)
    · try simp (disch := omega) only [w32_of, w64_of, w8_of, decide_eq_true_eq, decide_eq_false_iff_not, Bool.not_eq_true] at c15
      refine wp_waI hσ_21 b_kR_spanFrom (by (try dsimp only) <;> first | assumption | omega | ((try simp (disch := omega) only [w32_of, w64_of, w8_of]) <;> first | assumption | omega | (split <;> omega) | (refine And.intro ?_ ?_ <;> split <;> omega)) | omega) (by (try dsimp only) <;> first | assumption | omega | ((try simp (disch := omega) only [w32_of, w64_of, w8_of]) <;> first | assumption | omega | (split <;> omega) | (refine And.intro ?_ ?_ <;> split <;> omega)) | omega) (by (try dsimp only) <;> first | assumption | omega | ((try simp (disch := omega) only [w32_of, w64_of, w8_of]) <;> first | assumption | omega | (split <;> omega) | (refine And.intro ?_ ?_ <;> split <;> omega)) | omega) (fun σ_27 hσ_27 eσ_27 => ?_)
      try simp (disch := omega) only [w32_of, w64_of, w8_of] at eσ_27
      have flσ_27 := FR_sg eσ_27
      have frσ_27 : FR [kR_limbs, kR_sign, kR_spanFrom, kR_spanTo, kR_stays, kR_w] σ σ_27 := FR_tr frσ_21 flσ_27 (by decide) (by decide)
      have rgσ_27_6 : RG σ_27 6 (0) 2 := RG_f flσ_27 (by decide) rgσ_21_6
      refine wp_waI hσ_27 b_kR_spanTo (by (try dsimp only) <;> first | assumption | omega | ((try simp (disch := omega) only [w32_of, w64_of, w8_of]) <;> first | assumption | omega | (split <;> omega) | (refine And.intro ?_ ?_ <;> split <;> omega)) | omega) (by (try dsimp only) <;> first | assumption | omega | ((try simp (disch := omega) only [w32_of, w64_of, w8_of]) <;> first | assumption | omega | (split <;> omega) | (refine And.intro ?_ ?_ <;> split <;> omega)) | omega) (by (try dsimp only) <;> first | assumption | omega | ((try simp (disch := omega) only [w32_of, w64_of, w8_of]) <;> first | assumption | omega | (split <;> omega) | (refine And.intro ?_ ?_ <;> split <;> omega)) | omega) (fun σ_29 hσ_29 eσ_29 => ?_)
      try simp (disch := omega) only [w32_of, w64_of, w8_of] at eσ_29
      have flσ_29 := FR_sg eσ_29
      have frσ_29 : FR [kR_limbs, kR_sign, kR_spanFrom, kR_spanTo, kR_stays, kR_w] σ σ_29 := FR_tr frσ_27 flσ_29 (by decide) (by decide)
      have rgσ_29_6 : RG σ_29 6 (0) 2 := RG_f flσ_29 (by decide) rgσ_27_6
      exact wp_some ⟨hσ_29, frσ_29, (by (try dsimp only) <;> first | assumption | omega | ((try simp (disch := omega) only [w32_of, w64_of, w8_of]) <;> first | assumption | omega | (split <;> omega) | (refine And.intro ?_ ?_ <;> split <;> omega)) | omega), (by (try dsimp only) <;> (first | exact ⟨_, rgσ_29_6⟩ | exact ⟨_, rgσ_21_6⟩)), (by (try dsimp only) <;> (first | (intro i a b; exact absurd b (by omega)) | (intro i a b; have ei : i = 0 := (by omega); rw [ei, show σ_29 kR_spanFrom 0 = from_0 by simp (disch := first | decide | omega) only [eσ_29, eσ_27, sg_at, sg_nc, sg_ni], show σ_29 kR_spanTo 0 = from_0 + n_0 - 1 by simp (disch := first | decide | omega) only [eσ_29, sg_at, sg_nc, sg_ni]]; omega)))⟩
    · try simp (disch := omega) only [w32_of, w64_of, w8_of, decide_eq_true_eq, decide_eq_false_iff_not, Bool.not_eq_true] at c15
      exact wp_some ⟨hσ_21, frσ_21, (by (try dsimp only) <;> first | assumption | omega | ((try simp (disch := omega) only [w32_of, w64_of, w8_of]) <;> first | assumption | omega | (split <;> omega) | (refine And.intro ?_ ?_ <;> split <;> omega)) | omega), (by (try dsimp only) <;> (first | exact ⟨_, rgσ_29_6⟩ | exact ⟨_, rgσ_21_6⟩)), (by (try dsimp only) <;> (first | (intro i a b; exact absurd b (by omega)) | (intro i a b; have ei : i = 0 := (by omega); rw [ei, show σ_29 kR_spanFrom 0 = from_0 by simp (disch := first | decide | omega) only [eσ_29, eσ_27, sg_at, sg_nc, sg_ni], show σ_29 kR_spanTo 0 = from_0 + n_0 - 1 by simp (disch := first | decide | omega) only [eσ_29, sg_at, sg_nc, sg_ni]]; omega)))⟩
  rintro ⟨spans_33, σ_34⟩ _ y18
  try dsimp only at y18 ⊢
  obtain ⟨hσ_34, frσ_34, g17, h6, gs⟩ := y18
  refine wp_bd (P := fun rr_ => II rr_.2 ∧ FR [kR_limbs, kR_sign, kR_spanFrom, kR_spanTo, kR_stays, kR_w] σ rr_.2) ?_ ?_
  · refine wp_whl (fun ss_ => II ss_.2 ∧ FR [kR_limbs, kR_sign, kR_spanFrom, kR_spanTo, kR_stays, kR_w] σ ss_.2 ∧ (0 ≤ ss_.1 ∧ ss_.1 ≤ n_0) ∧ (∀ i, 0 ≤ i → i < ss_.1 → from_0 + i ≤ ss_.2 kR_spanFrom i ∧ ss_.2 kR_spanFrom i < ss_.2 kR_spanTo i ∧ ss_.2 kR_spanTo i ≤ from_0 + n_0 - 1) ∧ (∃ v, RG ss_.2 6 v 2)) (fun ss_ => (sp_ ss_.2 ss_.1).toNat) ⟨hσ_34, frσ_34, (by (try dsimp only) <;> first | assumption | omega | ((try simp (disch := omega) only [w32_of, w64_of, w8_of]) <;> first | assumption | omega | (split <;> omega) | (refine And.intro ?_ ?_ <;> split <;> omega)) | omega), (by (try dsimp only) <;> (first | exact gs | exact gs2 | exact gs3)), (by (try dsimp only) <;> (first | exact h6 | exact ⟨_, rgσ_62_6⟩ | exact ⟨_, r6⟩))⟩ ?_
    rintro ⟨spans_35, σ_36⟩ y20
    try dsimp only at y20 ⊢
    obtain ⟨hσ_36, frσ_36, g19, gs, h6⟩ := y20
    have c22 := w32_rng spans_35
    refine wp_if (fun c21 => ?_) (fun c21 => ?_)
    · try simp (disch := omega) only [w32_of, w64_of, w8_of, decide_eq_true_eq, decide_eq_false_iff_not, Bool.not_eq_true] at c21
      have gs0 := gs (spans_35 - 1) (by omega) (by omega)
      rw [show spans_35 - 1 = spans_35 + (-1) by omega] at gs0
      have hnn := sp_nn (σ := σ_36) (n := spans_35 + (-1)) (fun i a b => (gs i a (by omega)).2.1)
      have hss := sp_s (σ := σ_36) (n := spans_35 + (-1)) (by omega)
      rw [show spans_35 + (-1) + 1 = spans_35 by omega] at hss
      have c23 := w32_rng (spans_35 + (-1))
      refine wp_rdI (by (try dsimp only) <;> first | assumption | omega | ((try simp (disch := omega) only [w32_of, w64_of, w8_of]) <;> first | assumption | omega | (split <;> omega) | (refine And.intro ?_ ?_ <;> split <;> omega)) | omega) (by (try dsimp only) <;> first | assumption | omega | ((try simp (disch := omega) only [w32_of, w64_of, w8_of]) <;> first | assumption | omega | (split <;> omega) | (refine And.intro ?_ ?_ <;> split <;> omega)) | omega) (fun x_45 e_x_45 => ?_)
      have b_x_45 : 0 ≤ x_45 ∧ x_45 ≤ 67583 := by rw [e_x_45]; exact ii_kR_spanFrom hσ_36 _
      try simp (disch := omega) only [w32_of, w64_of, w8_of] at e_x_45
      have c24 := ii_kR_spanFrom hσ_36 (spans_35 + (-1))
      refine wp_rdI (by (try dsimp only) <;> first | assumption | omega | ((try simp (disch := omega) only [w32_of, w64_of, w8_of]) <;> first | assumption | omega | (split <;> omega) | (refine And.intro ?_ ?_ <;> split <;> omega)) | omega) (by (try dsimp only) <;> first | assumption | omega | ((try simp (disch := omega) only [w32_of, w64_of, w8_of]) <;> first | assumption | omega | (split <;> omega) | (refine And.intro ?_ ?_ <;> split <;> omega)) | omega) (fun x_47 e_x_47 => ?_)
      have b_x_47 : 0 ≤ x_47 ∧ x_47 ≤ 67583 := by rw [e_x_47]; exact ii_kR_spanTo hσ_36 _
      try simp (disch := omega) only [w32_of, w64_of, w8_of] at e_x_47
      have c25 := ii_kR_spanTo hσ_36 (spans_35 + (-1))
      refine wp_bd (s_R_farthest (σ := σ_36) (a_0 := x_45) (b_0 := x_47) (far_0 := far_0) hσ_36 (by (try dsimp only) <;> first | assumption | omega | ((try simp (disch := omega) only [w32_of, w64_of, w8_of]) <;> first | assumption | omega | (split <;> omega) | (refine And.intro ?_ ?_ <;> split <;> omega)) | omega) (by (try dsimp only) <;> first | assumption | omega | ((try simp (disch := omega) only [w32_of, w64_of, w8_of]) <;> first | assumption | omega | (split <;> omega) | (refine And.intro ?_ ?_ <;> split <;> omega)) | omega) (by (try dsimp only) <;> first | assumption | omega | ((try simp (disch := omega) only [w32_of, w64_of, w8_of]) <;> first | assumption | omega | (split <;> omega) | (refine And.intro ?_ ?_ <;> split <;> omega)) | omega) (by (try dsimp only) <;> first | assumption | omega | ((try simp (disch := omega) only [w32_of, w64_of, w8_of]) <;> first | assumption | omega | (split <;> omega) | (refine And.intro ?_ ?_ <;> split <;> omega)) | omega) (by (try dsimp only) <;> first | assumption | omega | ((try simp (disch := omega) only [w32_of, w64_of, w8_of]) <;> first | assumption | omega | (split <;> omega) | (refine And.intro ?_ ?_ <;> split <;> omega)) | omega) (by (try dsimp only) <;> first | assumption | omega | ((try simp (disch := omega) only [w32_of, w64_of, w8_of]) <;> first | assumption | omega | (split <;> omega) | (refine And.intro ?_ ?_ <;> split <;> omega)) | omega) (by (try dsimp only) <;> first | assumption | omega | ((try simp (disch := omega) only [w32_of, w64_of, w8_of]) <;> first | assumption | omega | (split <;> omega) | (refine And.intro ?_ ?_ <;> split <;> omega)) | omega) (by (try dsimp only) <;> first | assumption | omega | ((try simp (disch := omega) only [w32_of, w64_of, w8_of]) <;> first | assumption | omega | (split <;> omega) | (refine And.intro ?_ ?_ <;> split <;> omega)) | omega)) ?_
      rintro ⟨x_51, σ_50⟩ - y26
      try dsimp only at y26 ⊢
      obtain ⟨hσ_50, flσ_50, gf, g6⟩ := y26
      have frσ_50 : FR [kR_limbs, kR_sign, kR_spanFrom, kR_spanTo, kR_stays, kR_w] σ σ_50 := FR_tr frσ_36 flσ_50 (by decide) (by decide)
      try simp (disch := omega) only [w32_of, w64_of, w8_of] at gf
      try simp (disch := omega) only [w32_of, w64_of, w8_of] at g6
      obtain ⟨v6, r6⟩ := g6
      have c28 := w32_rng x_51
      refine wp_if (fun c27 => ?_) (fun c27 => ?_)
      · try simp (disch := omega) only [w32_of, w64_of, w8_of, decide_eq_true_eq, decide_eq_false_iff_not, Bool.not_eq_true] at c27
        have gs2 : ∀ i, 0 ≤ i → i < spans_35 + (-1) → from_0 + i ≤ σ_50 kR_spanFrom i ∧ σ_50 kR_spanFrom i < σ_50 kR_spanTo i ∧ σ_50 kR_spanTo i ≤ from_0 + n_0 - 1 := fun i a b => by
          rw [FR_at flσ_50 (c := kR_spanFrom) (by decide), FR_at flσ_50 (c := kR_spanTo) (by decide)]; exact gs i a (by omega)
        have hs2 := sp_cg (σ := σ_50) (τ := σ_36) (n := spans_35 + (-1)) (fun i _ _ => ⟨FR_at flσ_50 (by decide) i, FR_at flσ_50 (by decide) i⟩)
        exact wp_some (x_inl ⟨⟨hσ_50, frσ_50, (by (try dsimp only) <;> first | assumption | omega | ((try simp (disch := omega) only [w32_of, w64_of, w8_of]) <;> first | assumption | omega | (split <;> omega) | (refine And.intro ?_ ?_ <;> split <;> omega)) | omega), (by (try dsimp only) <;> (first | exact gs | exact gs2 | exact gs3)), (by (try dsimp only) <;> (first | exact h6 | exact ⟨_, rgσ_62_6⟩ | exact ⟨_, r6⟩))⟩, (by (try dsimp only) <;> first | assumption | omega | ((try simp (disch := omega) only [w32_of, w64_of, w8_of]) <;> first | assumption | omega | (split <;> omega) | (refine And.intro ?_ ?_ <;> split <;> omega)) | omega)⟩)
      · try simp (disch := omega) only [w32_of, w64_of, w8_of, decide_eq_true_eq, decide_eq_false_iff_not, Bool.not_eq_true] at c27
        have c29 := bz_bd true
        try simp (disch := omega) only [w32_of, w64_of, w8_of] at c29
        have c30 := q_idv_bd from_0 2048 (by (try dsimp only) <;> first | assumption | omega | ((try simp (disch := omega) only [w32_of, w64_of, w8_of]) <;> first | assumption | omega | (split <;> omega) | (refine And.intro ?_ ?_ <;> split <;> omega)) | omega) (by (try dsimp only) <;> first | assumption | omega | ((try simp (disch := omega) only [w32_of, w64_of, w8_of]) <;> first | assumption | omega | (split <;> omega) | (refine And.intro ?_ ?_ <;> split <;> omega)) | omega)
        try simp (disch := omega) only [w32_of, w64_of, w8_of] at c30
        have c31 := w32_rng (((from_0 - ((q_idv from_0 2048) * 2048)) + x_51) - from_0)
        refine wp_waI hσ_50 b_kR_stays (by (try dsimp only) <;> first | assumption | omega | ((try simp (disch := omega) only [w32_of, w64_of, w8_of]) <;> first | assumption | omega | (split <;> omega) | (refine And.intro ?_ ?_ <;> split <;> omega)) | omega) (by (try dsimp only) <;> first | assumption | omega | ((try simp (disch := omega) only [w32_of, w64_of, w8_of]) <;> first | assumption | omega | (split <;> omega) | (refine And.intro ?_ ?_ <;> split <;> omega)) | omega) (by (try dsimp only) <;> first | assumption | omega | ((try simp (disch := omega) only [w32_of, w64_of, w8_of]) <;> first | assumption | omega | (split <;> omega) | (refine And.intro ?_ ?_ <;> split <;> omega)) | omega) (fun σ_54 hσ_54 eσ_54 => ?_)
        try simp (disch := omega) only [w32_of, w64_of, w8_of] at eσ_54
        have flσ_54 := FR_sg eσ_54
        have frσ_54 : FR [kR_limbs, kR_sign, kR_spanFrom, kR_spanTo, kR_stays, kR_w] σ σ_54 := FR_tr frσ_50 flσ_54 (by decide) (by decide)
        have rgσ_54_6 : RG σ_54 6 (v6) 2 := RG_f flσ_54 (by decide) r6
        refine wp_waI hσ_54 b_kR_spanFrom (by (try dsimp only) <;> first | assumption | omega | ((try simp (disch := omega) only [w32_of, w64_of, w8_of]) <;> first | assumption | omega | (split <;> omega) | (refine And.intro ?_ ?_ <;> split <;> omega)) | omega) (by (try dsimp only) <;> first | assumption | omega | ((try simp (disch := omega) only [w32_of, w64_of, w8_of]) <;> first | assumption | omega | (split <;> omega) | (refine And.intro ?_ ?_ <;> split <;> omega)) | omega) (by (try dsimp only) <;> first | assumption | omega | ((try simp (disch := omega) only [w32_of, w64_of, w8_of]) <;> first | assumption | omega | (split <;> omega) | (refine And.intro ?_ ?_ <;> split <;> omega)) | omega) (fun σ_56 hσ_56 eσ_56 => ?_)
        try simp (disch := omega) only [w32_of, w64_of, w8_of] at eσ_56
        have flσ_56 := FR_sg eσ_56
        have frσ_56 : FR [kR_limbs, kR_sign, kR_spanFrom, kR_spanTo, kR_stays, kR_w] σ σ_56 := FR_tr frσ_54 flσ_56 (by decide) (by decide)
        have rgσ_56_6 : RG σ_56 6 (v6) 2 := RG_f flσ_56 (by decide) rgσ_54_6
        refine wp_waI hσ_56 b_kR_spanTo (by (try dsimp only) <;> first | assumption | omega | ((try simp (disch := omega) only [w32_of, w64_of, w8_of]) <;> first | assumption | omega | (split <;> omega) | (refine And.intro ?_ ?_ <;> split <;> omega)) | omega) (by (try dsimp only) <;> first | assumption | omega | ((try simp (disch := omega) only [w32_of, w64_of, w8_of]) <;> first | assumption | omega | (split <;> omega) | (refine And.intro ?_ ?_ <;> split <;> omega)) | omega) (by (try dsimp only) <;> first | assumption | omega | ((try simp (disch := omega) only [w32_of, w64_of, w8_of]) <;> first | assumption | omega | (split <;> omega) | (refine And.intro ?_ ?_ <;> split <;> omega)) | omega) (fun σ_58 hσ_58 eσ_58 => ?_)
        try simp (disch := omega) only [w32_of, w64_of, w8_of] at eσ_58
        have flσ_58 := FR_sg eσ_58
        have frσ_58 : FR [kR_limbs, kR_sign, kR_spanFrom, kR_spanTo, kR_stays, kR_w] σ σ_58 := FR_tr frσ_56 flσ_58 (by decide) (by decide)
        have rgσ_58_6 : RG σ_58 6 (v6) 2 := RG_f flσ_58 (by decide) rgσ_56_6
        have c32 := w32_rng ((spans_35 + (-1)) + 1)
        refine wp_waI hσ_58 b_kR_spanFrom (by (try dsimp only) <;> first | assumption | omega | ((try simp (disch := omega) only [w32_of, w64_of, w8_of]) <;> first | assumption | omega | (split <;> omega) | (refine And.intro ?_ ?_ <;> split <;> omega)) | omega) (by (try dsimp only) <;> first | assumption | omega | ((try simp (disch := omega) only [w32_of, w64_of, w8_of]) <;> first | assumption | omega | (split <;> omega) | (refine And.intro ?_ ?_ <;> split <;> omega)) | omega) (by (try dsimp only) <;> first | assumption | omega | ((try simp (disch := omega) only [w32_of, w64_of, w8_of]) <;> first | assumption | omega | (split <;> omega) | (refine And.intro ?_ ?_ <;> split <;> omega)) | omega) (fun σ_60 hσ_60 eσ_60 => ?_)
        try simp (disch := omega) only [w32_of, w64_of, w8_of] at eσ_60
        have flσ_60 := FR_sg eσ_60
        have frσ_60 : FR [kR_limbs, kR_sign, kR_spanFrom, kR_spanTo, kR_stays, kR_w] σ σ_60 := FR_tr frσ_58 flσ_60 (by decide) (by decide)
        have rgσ_60_6 : RG σ_60 6 (v6) 2 := RG_f flσ_60 (by decide) rgσ_58_6
        refine wp_waI hσ_60 b_kR_spanTo (by (try dsimp only) <;> first | assumption | omega | ((try simp (disch := omega) only [w32_of, w64_of, w8_of]) <;> first | assumption | omega | (split <;> omega) | (refine And.intro ?_ ?_ <;> split <;> omega)) | omega) (by (try dsimp only) <;> first | assumption | omega | ((try simp (disch := omega) only [w32_of, w64_of, w8_of]) <;> first | assumption | omega | (split <;> omega) | (refine And.intro ?_ ?_ <;> split <;> omega)) | omega) (by (try dsimp only) <;> first | assumption | omega | ((try simp (disch := omega) only [w32_of, w64_of, w8_of]) <;> first | assumption | omega | (split <;> omega) | (refine And.intro ?_ ?_ <;> split <;> omega)) | omega) (fun σ_62 hσ_62 eσ_62 => ?_)
        try simp (disch := omega) only [w32_of, w64_of, w8_of] at eσ_62
        have flσ_62 := FR_sg eσ_62
        have frσ_62 : FR [kR_limbs, kR_sign, kR_spanFrom, kR_spanTo, kR_stays, kR_w] σ σ_62 := FR_tr frσ_60 flσ_62 (by decide) (by decide)
        have rgσ_62_6 : RG σ_62 6 (v6) 2 := RG_f flσ_62 (by decide) rgσ_60_6
        have hf : ∀ i, i ≠ spans_35 + (-1) → i ≠ spans_35 + (-1) + 1 → σ_62 kR_spanFrom i = σ_36 kR_spanFrom i ∧ σ_62 kR_spanTo i = σ_36 kR_spanTo i := fun i a b => by
          simp (disch := first | decide | omega) only [eσ_62, eσ_60, eσ_58, eσ_56, eσ_54, sg_at, sg_nc, sg_ni]
          exact ⟨FR_at flσ_50 (by decide) i, FR_at flσ_50 (by decide) i⟩
        have f1 : σ_62 kR_spanFrom (spans_35 + (-1)) = x_45 := by simp (disch := first | decide | omega) only [eσ_62, eσ_60, eσ_58, eσ_56, sg_at, sg_nc, sg_ni]
        have f2 : σ_62 kR_spanTo (spans_35 + (-1)) = x_51 := by simp (disch := first | decide | omega) only [eσ_62, eσ_60, eσ_58, sg_at, sg_nc, sg_ni]
        have f3 : σ_62 kR_spanFrom (spans_35 + (-1) + 1) = x_51 := by simp (disch := first | decide | omega) only [eσ_62, eσ_60, sg_at, sg_nc, sg_ni]
        have f4 : σ_62 kR_spanTo (spans_35 + (-1) + 1) = x_47 := by simp (disch := first | decide | omega) only [eσ_62, sg_at, sg_nc, sg_ni]
        have hs2 := sp_s (σ := σ_62) (n := spans_35 + (-1)) (by omega)
        have hs3 := sp_s (σ := σ_62) (n := spans_35 + (-1) + 1) (by omega)
        rw [f1, f2] at hs2
        rw [f3, f4] at hs3
        rw [show spans_35 + (-1) + 1 + 1 = spans_35 + (-1) + 2 by omega] at hs3
        have hs4 := sp_cg (σ := σ_62) (τ := σ_36) (n := spans_35 + (-1)) (fun i a b => (hf i (by omega) (by omega)).symm)
        have gs3 : ∀ i, 0 ≤ i → i < spans_35 + (-1) + 2 → from_0 + i ≤ σ_62 kR_spanFrom i ∧ σ_62 kR_spanFrom i < σ_62 kR_spanTo i ∧ σ_62 kR_spanTo i ≤ from_0 + n_0 - 1 := fun i a b => by
          by_cases p : i = spans_35 + (-1)
          · rw [p, f1, f2]; omega
          · by_cases q : i = spans_35 + (-1) + 1
            · rw [q, f3, f4]; omega
            · rw [(hf i p q).1, (hf i p q).2]; exact gs i a (by omega)
        exact wp_some (x_inl ⟨⟨hσ_62, frσ_62, (by (try dsimp only) <;> first | assumption | omega | ((try simp (disch := omega) only [w32_of, w64_of, w8_of]) <;> first | assumption | omega | (split <;> omega) | (refine And.intro ?_ ?_ <;> split <;> omega)) | omega), (by (try dsimp only) <;> (first | exact gs | exact gs2 | exact gs3)), (by (try dsimp only) <;> (first | exact h6 | exact ⟨_, rgσ_62_6⟩ | exact ⟨_, r6⟩))⟩, (by (try dsimp only) <;> first | assumption | omega | ((try simp (disch := omega) only [w32_of, w64_of, w8_of]) <;> first | assumption | omega | (split <;> omega) | (refine And.intro ?_ ?_ <;> split <;> omega)) | omega)⟩)
    · try simp (disch := omega) only [w32_of, w64_of, w8_of, decide_eq_true_eq, decide_eq_false_iff_not, Bool.not_eq_true] at c21
      exact wp_some (x_inr ⟨hσ_36, frσ_36⟩)
  rintro ⟨spans_66, σ_67⟩ _ y33
  try dsimp only at y33 ⊢
  obtain ⟨hσ_67, frσ_67⟩ := y33
  exact wp_some ⟨hσ_67, frσ_67⟩
