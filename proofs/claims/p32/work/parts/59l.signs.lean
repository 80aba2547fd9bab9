theorem s_I_limbAt {σ : SG} {register_0 : Int} {i_0 : Int} (hσ : II σ) (w0 : 0 ≤ register_0 ∧ register_0 ≤ 15) (w1 : 0 ≤ i_0 ∧ i_0 ≤ 280) : wp_ (fI_limbAt σ register_0 i_0) (fun zz_ => (0 ≤ zz_ ∧ zz_ ≤ 4294967295)) := by
  unfold fI_limbAt
  refine wp_bdk ?_
  have c1 := w32_rng register_0
  refine wp_rdI (by (try dsimp only) <;> first | assumption | omega | ((try simp (disch := omega) only [w32_of, w64_of, w8_of]) <;> first | assumption | omega | (split <;> omega) | (refine And.intro ?_ ?_ <;> split <;> omega)) | omega) (by (try dsimp only) <;> first | assumption | omega | ((try simp (disch := omega) only [w32_of, w64_of, w8_of]) <;> first | assumption | omega | (split <;> omega) | (refine And.intro ?_ ?_ <;> split <;> omega)) | omega) (fun x_1 e_x_1 => ?_)
  have b_x_1 : 0 ≤ x_1 ∧ x_1 ≤ 280 := by rw [e_x_1]; exact ii_kI_used hσ _
  try simp (disch := omega) only [w32_of, w64_of, w8_of] at e_x_1
  have c2 := ii_kI_used hσ register_0
  have c4 := w32_rng i_0
  have c5 := w32_rng x_1
  refine wp_if (fun c3 => ?_) (fun c3 => ?_)
  · try simp (disch := omega) only [w32_of, w64_of, w8_of, decide_eq_true_eq, decide_eq_false_iff_not, Bool.not_eq_true] at c3
    refine wp_ck (by (try dsimp only) <;> first | assumption | omega | ((try simp (disch := omega) only [w32_of, w64_of, w8_of]) <;> first | assumption | omega | (split <;> omega) | (refine And.intro ?_ ?_ <;> split <;> omega)) | omega) ?_
    refine wp_rdI (by (try dsimp only) <;> first | assumption | omega | ((try simp (disch := omega) only [w32_of, w64_of, w8_of]) <;> first | assumption | omega | (split <;> omega) | (refine And.intro ?_ ?_ <;> split <;> omega)) | omega) (by (try dsimp only) <;> first | assumption | omega | ((try simp (disch := omega) only [w32_of, w64_of, w8_of]) <;> first | assumption | omega | (split <;> omega) | (refine And.intro ?_ ?_ <;> split <;> omega)) | omega) (fun x_5 e_x_5 => ?_)
    try simp (disch := omega) only [w32_of, w64_of, w8_of] at e_x_5
    have hlp : q_lan (w32 x_5) 4294967295 = w32 x_5 % 4294967296 := lan_p (w32 x_5) (k := 32) (by decide) (by decide)
    refine wp_somek ?_
    try dsimp only
    exact wp_some (by (try dsimp only) <;> first | assumption | omega | ((try simp (disch := omega) only [w32_of, w64_of, w8_of]) <;> first | assumption | omega | (split <;> omega) | (refine And.intro ?_ ?_ <;> split <;> omega)) | omega)
  · try simp (disch := omega) only [w32_of, w64_of, w8_of, decide_eq_true_eq, decide_eq_false_iff_not, Bool.not_eq_true] at c3
    refine wp_somek ?_
    try dsimp only
    exact wp_some (by (try dsimp only) <;> first | assumption | omega | ((try simp (disch := omega) only [w32_of, w64_of, w8_of]) <;> first | assumption | omega | (split <;> omega) | (refine And.intro ?_ ?_ <;> split <;> omega)) | omega)
theorem s_I_addLimbs {σ : SG} {to_0 : Int} {one_0 : Int} {two_0 : Int} {factor_0 : Int} (hσ : II σ) (w0 : 0 ≤ to_0 ∧ to_0 ≤ 15) (w1 : 0 ≤ one_0 ∧ one_0 ≤ 15) (w2 : 0 ≤ two_0 ∧ two_0 ≤ 15) : wp_ (fI_addLimbs σ to_0 one_0 two_0 factor_0) (fun zz_ => II zz_ ∧ FC [65536, 65792, 66048, 66304, 66560, 66816, 67072, 67328, 67584, 67840, 68096, 68352, 68608, 68864, 69120, 69376, kI_used] [] σ zz_) := by
  unfold fI_addLimbs
  have hu1 := ii_kI_used hσ one_0
  have hu2 := ii_kI_used hσ two_0
  have c1 := w32_rng one_0
  refine wp_rdI (by (try dsimp only) <;> first | assumption | omega | ((try simp (disch := omega) only [w32_of, w64_of, w8_of]) <;> first | assumption | omega | (split <;> omega) | (refine And.intro ?_ ?_ <;> split <;> omega)) | omega) (by (try dsimp only) <;> first | assumption | omega | ((try simp (disch := omega) only [w32_of, w64_of, w8_of]) <;> first | assumption | omega | (split <;> omega) | (refine And.intro ?_ ?_ <;> split <;> omega)) | omega) (fun x_1 e_x_1 => ?_)
  have b_x_1 : 0 ≤ x_1 ∧ x_1 ≤ 280 := by rw [e_x_1]; exact ii_kI_used hσ _
  try simp (disch := omega) only [w32_of, w64_of, w8_of] at e_x_1
  have c2 := ii_kI_used hσ one_0
  have c3 := w32_rng two_0
  refine wp_rdI (by (try dsimp only) <;> first | assumption | omega | ((try simp (disch := omega) only [w32_of, w64_of, w8_of]) <;> first | assumption | omega | (split <;> omega) | (refine And.intro ?_ ?_ <;> split <;> omega)) | omega) (by (try dsimp only) <;> first | assumption | omega | ((try simp (disch := omega) only [w32_of, w64_of, w8_of]) <;> first | assumption | omega | (split <;> omega) | (refine And.intro ?_ ?_ <;> split <;> omega)) | omega) (fun x_3 e_x_3 => ?_)
  have b_x_3 : 0 ≤ x_3 ∧ x_3 ≤ 280 := by rw [e_x_3]; exact ii_kI_used hσ _
  try simp (disch := omega) only [w32_of, w64_of, w8_of] at e_x_3
  have c4 := ii_kI_used hσ two_0
  refine wp_bd (P := fun rr_ => II rr_.2.2 ∧ FC [65536, 65792, 66048, 66304, 66560, 66816, 67072, 67328, 67584, 67840, 68096, 68352, 68608, 68864, 69120, 69376, kI_used] [] σ rr_.2.2 ∧ (True)) ?_ ?_
  · refine wp_whl (fun ss_ => II ss_.2.2 ∧ FC [65536, 65792, 66048, 66304, 66560, 66816, 67072, 67328, 67584, 67840, 68096, 68352, 68608, 68864, 69120, 69376, kI_used] [] σ ss_.2.2 ∧ (0 ≤ ss_.2.1 ∧ ss_.2.1 ≤ 280)) (fun ss_ => (281 - ss_.2.1).toNat) ⟨hσ, (FC_refl _ _ _), (by (try dsimp only) <;> first | assumption | omega | ((try simp (disch := omega) only [w32_of, w64_of, w8_of]) <;> first | assumption | omega | (split <;> omega) | (refine And.intro ?_ ?_ <;> split <;> omega)) | omega)⟩ ?_
    rintro ⟨carry_5, i_6, σ_7⟩ y6
    try dsimp only at y6 ⊢
    obtain ⟨hσ_7, frσ_7, g5⟩ := y6
    have c8 := w32_rng i_6
    have c9 := q_mxi_bd x_1 x_3
    try simp (disch := omega) only [w32_of, w64_of, w8_of] at c9
    have c10 := q_mni_bd ((q_mxi x_1 x_3) + 1) 280
    try simp (disch := omega) only [w32_of, w64_of, w8_of] at c10
    have c11 := w32_rng (q_mni ((q_mxi x_1 x_3) + 1) 280)
    refine wp_if (fun c7 => ?_) (fun c7 => ?_)
    · try simp (disch := omega) only [w32_of, w64_of, w8_of, decide_eq_true_eq, decide_eq_false_iff_not, Bool.not_eq_true] at c7
      refine wp_bd (s_I_limbAt (σ := σ_7) (register_0 := one_0) (i_0 := i_6) hσ_7 (by (try dsimp only) <;> first | assumption | omega | ((try simp (disch := omega) only [w32_of, w64_of, w8_of]) <;> first | assumption | omega | (split <;> omega) | (refine And.intro ?_ ?_ <;> split <;> omega)) | omega) (by (try dsimp only) <;> first | assumption | omega | ((try simp (disch := omega) only [w32_of, w64_of, w8_of]) <;> first | assumption | omega | (split <;> omega) | (refine And.intro ?_ ?_ <;> split <;> omega)) | omega)) ?_
      rintro x_17 - g12
      try simp (disch := omega) only [w32_of, w64_of, w8_of] at g12
      refine wp_bd (s_I_limbAt (σ := σ_7) (register_0 := two_0) (i_0 := i_6) hσ_7 (by (try dsimp only) <;> first | assumption | omega | ((try simp (disch := omega) only [w32_of, w64_of, w8_of]) <;> first | assumption | omega | (split <;> omega) | (refine And.intro ?_ ?_ <;> split <;> omega)) | omega) (by (try dsimp only) <;> first | assumption | omega | ((try simp (disch := omega) only [w32_of, w64_of, w8_of]) <;> first | assumption | omega | (split <;> omega) | (refine And.intro ?_ ?_ <;> split <;> omega)) | omega)) ?_
      rintro x_19 - g13
      try simp (disch := omega) only [w32_of, w64_of, w8_of] at g13
      have c14 := w32_rng to_0
      refine wp_ck (by (try dsimp only) <;> first | assumption | omega | ((try simp (disch := omega) only [w32_of, w64_of, w8_of]) <;> first | assumption | omega | (split <;> omega) | (refine And.intro ?_ ?_ <;> split <;> omega)) | omega) ?_
      have c15 := w32_rng factor_0
      refine wp_waN hσ_7 (bI_limb (by (try dsimp only) <;> first | assumption | omega | ((try simp (disch := omega) only [w32_of, w64_of, w8_of]) <;> first | assumption | omega | (split <;> omega) | (refine And.intro ?_ ?_ <;> split <;> omega)) | omega)) (by (try dsimp only) <;> first | assumption | omega | ((try simp (disch := omega) only [w32_of, w64_of, w8_of]) <;> first | assumption | omega | (split <;> omega) | (refine And.intro ?_ ?_ <;> split <;> omega)) | omega) (by (try dsimp only) <;> first | assumption | omega | ((try simp (disch := omega) only [w32_of, w64_of, w8_of]) <;> first | assumption | omega | (split <;> omega) | (refine And.intro ?_ ?_ <;> split <;> omega)) | omega) (fun σ_21 hσ_21 eσ_21 => ?_)
      try simp (disch := omega) only [w32_of, w64_of, w8_of] at eσ_21
      have flσ_21 := FC_li eσ_21 (by (try dsimp only) <;> first | assumption | omega | ((try simp (disch := omega) only [w32_of, w64_of, w8_of]) <;> first | assumption | omega | (split <;> omega) | (refine And.intro ?_ ?_ <;> split <;> omega)) | omega)
      have frσ_21 : FC [65536, 65792, 66048, 66304, 66560, 66816, 67072, 67328, 67584, 67840, 68096, 68352, 68608, 68864, 69120, 69376, kI_used] [] σ σ_21 := FC_tr frσ_7 flσ_21 (by first | decide | (rcases hE with rfl | rfl | rfl <;> decide)) (by first | decide | (rcases hE with rfl | rfl | rfl <;> decide)) (by simp) (by simp)
      exact wp_some (x_inl ⟨⟨hσ_21, frσ_21, (by (try dsimp only) <;> first | assumption | omega | ((try simp (disch := omega) only [w32_of, w64_of, w8_of]) <;> first | assumption | omega | (split <;> omega) | (refine And.intro ?_ ?_ <;> split <;> omega)) | omega)⟩, (by (try dsimp only) <;> first | assumption | omega | ((try simp (disch := omega) only [w32_of, w64_of, w8_of]) <;> first | assumption | omega | (split <;> omega) | (refine And.intro ?_ ?_ <;> split <;> omega)) | omega)⟩)
    · try simp (disch := omega) only [w32_of, w64_of, w8_of, decide_eq_true_eq, decide_eq_false_iff_not, Bool.not_eq_true] at c7
      exact wp_some (x_inr ⟨hσ_7, frσ_7, (by (try dsimp only) <;> first | assumption | omega | ((try simp (disch := omega) only [w32_of, w64_of, w8_of]) <;> first | assumption | omega | (split <;> omega) | (refine And.intro ?_ ?_ <;> split <;> omega)) | omega)⟩)
  rintro ⟨carry_25, i_26, σ_27⟩ _ y17
  try dsimp only at y17 ⊢
  obtain ⟨hσ_27, frσ_27, g16⟩ := y17
  have c18 := q_mxi_bd x_1 x_3
  try simp (disch := omega) only [w32_of, w64_of, w8_of] at c18
  have c19 := q_mni_bd ((q_mxi x_1 x_3) + 1) 280
  try simp (disch := omega) only [w32_of, w64_of, w8_of] at c19
  have c20 := w32_rng to_0
  refine wp_waI hσ_27 b_kI_used (by (try dsimp only) <;> first | assumption | omega | ((try simp (disch := omega) only [w32_of, w64_of, w8_of]) <;> first | assumption | omega | (split <;> omega) | (refine And.intro ?_ ?_ <;> split <;> omega)) | omega) (by (try dsimp only) <;> first | assumption | omega | ((try simp (disch := omega) only [w32_of, w64_of, w8_of]) <;> first | assumption | omega | (split <;> omega) | (refine And.intro ?_ ?_ <;> split <;> omega)) | omega) (by (try dsimp only) <;> first | assumption | omega | ((try simp (disch := omega) only [w32_of, w64_of, w8_of]) <;> first | assumption | omega | (split <;> omega) | (refine And.intro ?_ ?_ <;> split <;> omega)) | omega) (fun σ_28 hσ_28 eσ_28 => ?_)
  try simp (disch := omega) only [w32_of, w64_of, w8_of] at eσ_28
  have flσ_28 := FC_sg eσ_28 (by first | decide | (rcases hE with rfl | rfl | rfl <;> decide))
  have frσ_28 : FC [65536, 65792, 66048, 66304, 66560, 66816, 67072, 67328, 67584, 67840, 68096, 68352, 68608, 68864, 69120, 69376, kI_used] [] σ σ_28 := FC_tr frσ_27 flσ_28 (by first | decide | (rcases hE with rfl | rfl | rfl <;> decide)) (by first | decide | (rcases hE with rfl | rfl | rfl <;> decide)) (by simp) (by simp)
  exact wp_some ⟨hσ_28, frσ_28⟩
theorem s_I_compareLimbs {σ : SG} {one_0 : Int} {two_0 : Int} (hσ : II σ) (w0 : 0 ≤ one_0 ∧ one_0 ≤ 15) (w1 : 0 ≤ two_0 ∧ two_0 ≤ 15) : wp_ (fI_compareLimbs σ one_0 two_0) (fun zz_ => (-1 ≤ zz_ ∧ zz_ ≤ 1)) := by
  unfold fI_compareLimbs
  have c1 := w32_rng one_0
  refine wp_rdI (by (try dsimp only) <;> first | assumption | omega | ((try simp (disch := omega) only [w32_of, w64_of, w8_of]) <;> first | assumption | omega | (split <;> omega) | (refine And.intro ?_ ?_ <;> split <;> omega)) | omega) (by (try dsimp only) <;> first | assumption | omega | ((try simp (disch := omega) only [w32_of, w64_of, w8_of]) <;> first | assumption | omega | (split <;> omega) | (refine And.intro ?_ ?_ <;> split <;> omega)) | omega) (fun x_1 e_x_1 => ?_)
  have b_x_1 : 0 ≤ x_1 ∧ x_1 ≤ 280 := by rw [e_x_1]; exact ii_kI_used hσ _
  try simp (disch := omega) only [w32_of, w64_of, w8_of] at e_x_1
  have c2 := ii_kI_used hσ one_0
  have c3 := w32_rng two_0
  refine wp_rdI (by (try dsimp only) <;> first | assumption | omega | ((try simp (disch := omega) only [w32_of, w64_of, w8_of]) <;> first | assumption | omega | (split <;> omega) | (refine And.intro ?_ ?_ <;> split <;> omega)) | omega) (by (try dsimp only) <;> first | assumption | omega | ((try simp (disch := omega) only [w32_of, w64_of, w8_of]) <;> first | assumption | omega | (split <;> omega) | (refine And.intro ?_ ?_ <;> split <;> omega)) | omega) (fun x_3 e_x_3 => ?_)
  have b_x_3 : 0 ≤ x_3 ∧ x_3 ≤ 280 := by rw [e_x_3]; exact ii_kI_used hσ _
  try simp (disch := omega) only [w32_of, w64_of, w8_of] at e_x_3
  have c4 := ii_kI_used hσ two_0
  have hmx := q_mxi_bd x_1 x_3
  rw [w32_of (x := x_1) (by omega) (by omega), w32_of (x := x_3) (by omega) (by omega)] at hmx
  refine wp_bx (P := fun rr_ => True) ?_ ?_
  · refine wp_whl (fun ss_ => (-1 ≤ ss_ ∧ ss_ ≤ 279)) (fun ss_ => (ss_ + 1).toNat) (by (try dsimp only) <;> first | assumption | omega | ((try simp (disch := omega) only [w32_of, w64_of, w8_of]) <;> first | assumption | omega | (split <;> omega) | (refine And.intro ?_ ?_ <;> split <;> omega)) | omega) ?_
    rintro i_5 g5
    have c7 := w32_rng i_5
    refine wp_if (fun c6 => ?_) (fun c6 => ?_)
    · try simp (disch := omega) only [w32_of, w64_of, w8_of, decide_eq_true_eq, decide_eq_false_iff_not, Bool.not_eq_true] at c6
      refine wp_bd (s_I_limbAt (σ := σ) (register_0 := one_0) (i_0 := i_5) hσ (by (try dsimp only) <;> first | assumption | omega | ((try simp (disch := omega) only [w32_of, w64_of, w8_of]) <;> first | assumption | omega | (split <;> omega) | (refine And.intro ?_ ?_ <;> split <;> omega)) | omega) (by (try dsimp only) <;> first | assumption | omega | ((try simp (disch := omega) only [w32_of, w64_of, w8_of]) <;> first | assumption | omega | (split <;> omega) | (refine And.intro ?_ ?_ <;> split <;> omega)) | omega)) ?_
      rintro x_15 - g8
      try simp (disch := omega) only [w32_of, w64_of, w8_of] at g8
      refine wp_bd (s_I_limbAt (σ := σ) (register_0 := two_0) (i_0 := i_5) hσ (by (try dsimp only) <;> first | assumption | omega | ((try simp (disch := omega) only [w32_of, w64_of, w8_of]) <;> first | assumption | omega | (split <;> omega) | (refine And.intro ?_ ?_ <;> split <;> omega)) | omega) (by (try dsimp only) <;> first | assumption | omega | ((try simp (disch := omega) only [w32_of, w64_of, w8_of]) <;> first | assumption | omega | (split <;> omega) | (refine And.intro ?_ ?_ <;> split <;> omega)) | omega)) ?_
      rintro x_17 - g9
      try simp (disch := omega) only [w32_of, w64_of, w8_of] at g9
      have c11 := w64_rng x_15
      have c12 := w64_rng x_17
      refine wp_if (fun c10 => ?_) (fun c10 => ?_)
      · try simp (disch := omega) only [w32_of, w64_of, w8_of, decide_eq_true_eq, decide_eq_false_iff_not, Bool.not_eq_true] at c10
        refine wp_bd (P := fun rr_ => (-1 ≤ rr_ ∧ rr_ ≤ 1)) ?_ ?_
        · refine wp_bd (s_I_limbAt (σ := σ) (register_0 := one_0) (i_0 := i_5) hσ (by (try dsimp only) <;> first | assumption | omega | ((try simp (disch := omega) only [w32_of, w64_of, w8_of]) <;> first | assumption | omega | (split <;> omega) | (refine And.intro ?_ ?_ <;> split <;> omega)) | omega) (by (try dsimp only) <;> first | assumption | omega | ((try simp (disch := omega) only [w32_of, w64_of, w8_of]) <;> first | assumption | omega | (split <;> omega) | (refine And.intro ?_ ?_ <;> split <;> omega)) | omega)) ?_
          rintro x_20 - g13
          try simp (disch := omega) only [w32_of, w64_of, w8_of] at g13
          refine wp_bd (s_I_limbAt (σ := σ) (register_0 := two_0) (i_0 := i_5) hσ (by (try dsimp only) <;> first | assumption | omega | ((try simp (disch := omega) only [w32_of, w64_of, w8_of]) <;> first | assumption | omega | (split <;> omega) | (refine And.intro ?_ ?_ <;> split <;> omega)) | omega) (by (try dsimp only) <;> first | assumption | omega | ((try simp (disch := omega) only [w32_of, w64_of, w8_of]) <;> first | assumption | omega | (split <;> omega) | (refine And.intro ?_ ?_ <;> split <;> omega)) | omega)) ?_
          rintro x_22 - g14
          try simp (disch := omega) only [w32_of, w64_of, w8_of] at g14
          have c16 := w64_rng x_22
          have c17 := w64_rng x_20
          refine wp_if (fun c15 => ?_) (fun c15 => ?_)
          · try simp (disch := omega) only [w32_of, w64_of, w8_of, decide_eq_true_eq, decide_eq_false_iff_not, Bool.not_eq_true] at c15
            exact wp_some (by (try dsimp only) <;> first | assumption | omega | ((try simp (disch := omega) only [w32_of, w64_of, w8_of]) <;> first | assumption | omega | (split <;> omega) | (refine And.intro ?_ ?_ <;> split <;> omega)) | omega)
          · try simp (disch := omega) only [w32_of, w64_of, w8_of, decide_eq_true_eq, decide_eq_false_iff_not, Bool.not_eq_true] at c15
            exact wp_some (by (try dsimp only) <;> first | assumption | omega | ((try simp (disch := omega) only [w32_of, w64_of, w8_of]) <;> first | assumption | omega | (split <;> omega) | (refine And.intro ?_ ?_ <;> split <;> omega)) | omega)
        rintro x_26 _ g18
        exact wp_some (x_inr (x_inr (by (try dsimp only) <;> first | assumption | omega | ((try simp (disch := omega) only [w32_of, w64_of, w8_of]) <;> first | assumption | omega | (split <;> omega) | (refine And.intro ?_ ?_ <;> split <;> omega)) | omega)))
      · try simp (disch := omega) only [w32_of, w64_of, w8_of, decide_eq_true_eq, decide_eq_false_iff_not, Bool.not_eq_true] at c10
        exact wp_some (x_inl ⟨(by (try dsimp only) <;> first | assumption | omega | ((try simp (disch := omega) only [w32_of, w64_of, w8_of]) <;> first | assumption | omega | (split <;> omega) | (refine And.intro ?_ ?_ <;> split <;> omega)) | omega), (by (try dsimp only) <;> first | assumption | omega | ((try simp (disch := omega) only [w32_of, w64_of, w8_of]) <;> first | assumption | omega | (split <;> omega) | (refine And.intro ?_ ?_ <;> split <;> omega)) | omega)⟩)
    · try simp (disch := omega) only [w32_of, w64_of, w8_of, decide_eq_true_eq, decide_eq_false_iff_not, Bool.not_eq_true] at c6
      exact wp_some (x_inr (x_inl trivial))
  rintro i_33 -
  exact wp_some (by (try dsimp only) <;> first | assumption | omega | ((try simp (disch := omega) only [w32_of, w64_of, w8_of]) <;> first | assumption | omega | (split <;> omega) | (refine And.intro ?_ ?_ <;> split <;> omega)) | omega)
theorem s_I_trim {σ : SG} {register_0 : Int} (hσ : II σ) (w0 : 0 ≤ register_0 ∧ register_0 ≤ 15) : wp_ (fI_trim σ register_0) (fun zz_ => II zz_ ∧ FC [kI_sign, kI_used] [] σ zz_) := by
  unfold fI_trim
  refine wp_bd (P := fun rr_ => II rr_ ∧ FC [kI_sign, kI_used] [] σ rr_ ∧ (True)) ?_ ?_
  · refine wp_whl (fun ss_ => II ss_ ∧ FC [kI_sign, kI_used] [] σ ss_ ∧ (True)) (fun ss_ => (ss_ kI_used register_0).toNat) ⟨hσ, (FC_refl _ _ _), (by (try dsimp only) <;> first | assumption | omega | ((try simp (disch := omega) only [w32_of, w64_of, w8_of]) <;> first | assumption | omega | (split <;> omega) | (refine And.intro ?_ ?_ <;> split <;> omega)) | omega)⟩ ?_
    rintro σ_1 ⟨hσ_1, frσ_1, g1⟩
    have c2 := w32_rng register_0
    refine wp_rdI (by (try dsimp only) <;> first | assumption | omega | ((try simp (disch := omega) only [w32_of, w64_of, w8_of]) <;> first | assumption | omega | (split <;> omega) | (refine And.intro ?_ ?_ <;> split <;> omega)) | omega) (by (try dsimp only) <;> first | assumption | omega | ((try simp (disch := omega) only [w32_of, w64_of, w8_of]) <;> first | assumption | omega | (split <;> omega) | (refine And.intro ?_ ?_ <;> split <;> omega)) | omega) (fun x_22 e_x_22 => ?_)
    have b_x_22 : 0 ≤ x_22 ∧ x_22 ≤ 280 := by rw [e_x_22]; exact ii_kI_used hσ_1 _
    try simp (disch := omega) only [w32_of, w64_of, w8_of] at e_x_22
    have c3 := ii_kI_used hσ_1 register_0
    have c5 := w32_rng x_22
    refine wp_if (fun c4 => ?_) (fun c4 => ?_)
    · try simp (disch := omega) only [w32_of, w64_of, w8_of, decide_eq_true_eq, decide_eq_false_iff_not, Bool.not_eq_true] at c4
      refine wp_ck (by (try dsimp only) <;> first | assumption | omega | ((try simp (disch := omega) only [w32_of, w64_of, w8_of]) <;> first | assumption | omega | (split <;> omega) | (refine And.intro ?_ ?_ <;> split <;> omega)) | omega) ?_
      refine wp_rdI (by (try dsimp only) <;> first | assumption | omega | ((try simp (disch := omega) only [w32_of, w64_of, w8_of]) <;> first | assumption | omega | (split <;> omega) | (refine And.intro ?_ ?_ <;> split <;> omega)) | omega) (by (try dsimp only) <;> first | assumption | omega | ((try simp (disch := omega) only [w32_of, w64_of, w8_of]) <;> first | assumption | omega | (split <;> omega) | (refine And.intro ?_ ?_ <;> split <;> omega)) | omega) (fun x_26 e_x_26 => ?_)
      have b_x_26 : 0 ≤ x_26 ∧ x_26 ≤ 280 := by rw [e_x_26]; exact ii_kI_used hσ_1 _
      try simp (disch := omega) only [w32_of, w64_of, w8_of] at e_x_26
      have c6 := w32_rng (x_26 - 1)
      refine wp_rdI (by (try dsimp only) <;> first | assumption | omega | ((try simp (disch := omega) only [w32_of, w64_of, w8_of]) <;> first | assumption | omega | (split <;> omega) | (refine And.intro ?_ ?_ <;> split <;> omega)) | omega) (by (try dsimp only) <;> first | assumption | omega | ((try simp (disch := omega) only [w32_of, w64_of, w8_of]) <;> first | assumption | omega | (split <;> omega) | (refine And.intro ?_ ?_ <;> split <;> omega)) | omega) (fun x_28 e_x_28 => ?_)
      try simp (disch := omega) only [w32_of, w64_of, w8_of] at e_x_28
      have c8 := w32_rng x_28
      refine wp_if (fun c7 => ?_) (fun c7 => ?_)
      · try simp (disch := omega) only [w32_of, w64_of, w8_of, decide_eq_true_eq, decide_eq_false_iff_not, Bool.not_eq_true] at c7
        refine wp_rdI (by (try dsimp only) <;> first | assumption | omega | ((try simp (disch := omega) only [w32_of, w64_of, w8_of]) <;> first | assumption | omega | (split <;> omega) | (refine And.intro ?_ ?_ <;> split <;> omega)) | omega) (by (try dsimp only) <;> first | assumption | omega | ((try simp (disch := omega) only [w32_of, w64_of, w8_of]) <;> first | assumption | omega | (split <;> omega) | (refine And.intro ?_ ?_ <;> split <;> omega)) | omega) (fun x_31 e_x_31 => ?_)
        have b_x_31 : 0 ≤ x_31 ∧ x_31 ≤ 280 := by rw [e_x_31]; exact ii_kI_used hσ_1 _
        try simp (disch := omega) only [w32_of, w64_of, w8_of] at e_x_31
        refine wp_waI hσ_1 b_kI_used (by (try dsimp only) <;> first | assumption | omega | ((try simp (disch := omega) only [w32_of, w64_of, w8_of]) <;> first | assumption | omega | (split <;> omega) | (refine And.intro ?_ ?_ <;> split <;> omega)) | omega) (by (try dsimp only) <;> first | assumption | omega | ((try simp (disch := omega) only [w32_of, w64_of, w8_of]) <;> first | assumption | omega | (split <;> omega) | (refine And.intro ?_ ?_ <;> split <;> omega)) | omega) (by (try dsimp only) <;> first | assumption | omega | ((try simp (disch := omega) only [w32_of, w64_of, w8_of]) <;> first | assumption | omega | (split <;> omega) | (refine And.intro ?_ ?_ <;> split <;> omega)) | omega) (fun σ_33 hσ_33 eσ_33 => ?_)
        try simp (disch := omega) only [w32_of, w64_of, w8_of] at eσ_33
        have flσ_33 := FC_sg eσ_33 (by first | decide | (rcases hE with rfl | rfl | rfl <;> decide))
        have frσ_33 : FC [kI_sign, kI_used] [] σ σ_33 := FC_tr frσ_1 flσ_33 (by first | decide | (rcases hE with rfl | rfl | rfl <;> decide)) (by first | decide | (rcases hE with rfl | rfl | rfl <;> decide)) (by simp) (by simp)
        have c9 := ii_kI_used hσ_33 register_0
        have c10 := sg_val eσ_33
        exact wp_some (x_inl ⟨⟨hσ_33, frσ_33, (by (try dsimp only) <;> first | assumption | omega | ((try simp (disch := omega) only [w32_of, w64_of, w8_of]) <;> first | assumption | omega | (split <;> omega) | (refine And.intro ?_ ?_ <;> split <;> omega)) | omega)⟩, (by (try dsimp only) <;> first | assumption | omega | ((try simp (disch := omega) only [w32_of, w64_of, w8_of]) <;> first | assumption | omega | (split <;> omega) | (refine And.intro ?_ ?_ <;> split <;> omega)) | omega)⟩)
      · try simp (disch := omega) only [w32_of, w64_of, w8_of, decide_eq_true_eq, decide_eq_false_iff_not, Bool.not_eq_true] at c7
        exact wp_some (x_inr ⟨hσ_1, frσ_1, (by (try dsimp only) <;> first | assumption | omega | ((try simp (disch := omega) only [w32_of, w64_of, w8_of]) <;> first | assumption | omega | (split <;> omega) | (refine And.intro ?_ ?_ <;> split <;> omega)) | omega)⟩)
    · try simp (disch := omega) only [w32_of, w64_of, w8_of, decide_eq_true_eq, decide_eq_false_iff_not, Bool.not_eq_true] at c4
      exact wp_some (x_inr ⟨hσ_1, frσ_1, (by (try dsimp only) <;> first | assumption | omega | ((try simp (disch := omega) only [w32_of, w64_of, w8_of]) <;> first | assumption | omega | (split <;> omega) | (refine And.intro ?_ ?_ <;> split <;> omega)) | omega)⟩)
  rintro σ_38 _ ⟨hσ_38, frσ_38, g11⟩
  refine wp_bd (P := fun rr_ => II rr_ ∧ FC [kI_sign, kI_used] [] σ rr_ ∧ (True)) ?_ ?_
  · have c12 := w32_rng register_0
    refine wp_rdI (by (try dsimp only) <;> first | assumption | omega | ((try simp (disch := omega) only [w32_of, w64_of, w8_of]) <;> first | assumption | omega | (split <;> omega) | (refine And.intro ?_ ?_ <;> split <;> omega)) | omega) (by (try dsimp only) <;> first | assumption | omega | ((try simp (disch := omega) only [w32_of, w64_of, w8_of]) <;> first | assumption | omega | (split <;> omega) | (refine And.intro ?_ ?_ <;> split <;> omega)) | omega) (fun x_43 e_x_43 => ?_)
    have b_x_43 : 0 ≤ x_43 ∧ x_43 ≤ 280 := by rw [e_x_43]; exact ii_kI_used hσ_38 _
    try simp (disch := omega) only [w32_of, w64_of, w8_of] at e_x_43
    have c13 := ii_kI_used hσ_38 register_0
    have c15 := w32_rng x_43
    refine wp_if (fun c14 => ?_) (fun c14 => ?_)
    · try simp (disch := omega) only [w32_of, w64_of, w8_of, decide_eq_true_eq, decide_eq_false_iff_not, Bool.not_eq_true] at c14
      refine wp_waI hσ_38 b_kI_sign (by (try dsimp only) <;> first | assumption | omega | ((try simp (disch := omega) only [w32_of, w64_of, w8_of]) <;> first | assumption | omega | (split <;> omega) | (refine And.intro ?_ ?_ <;> split <;> omega)) | omega) (by (try dsimp only) <;> first | assumption | omega | ((try simp (disch := omega) only [w32_of, w64_of, w8_of]) <;> first | assumption | omega | (split <;> omega) | (refine And.intro ?_ ?_ <;> split <;> omega)) | omega) (by (try dsimp only) <;> first | assumption | omega | ((try simp (disch := omega) only [w32_of, w64_of, w8_of]) <;> first | assumption | omega | (split <;> omega) | (refine And.intro ?_ ?_ <;> split <;> omega)) | omega) (fun σ_46 hσ_46 eσ_46 => ?_)
      try simp (disch := omega) only [w32_of, w64_of, w8_of] at eσ_46
      have flσ_46 := FC_sg eσ_46 (by first | decide | (rcases hE with rfl | rfl | rfl <;> decide))
      have frσ_46 : FC [kI_sign, kI_used] [] σ σ_46 := FC_tr frσ_38 flσ_46 (by first | decide | (rcases hE with rfl | rfl | rfl <;> decide)) (by first | decide | (rcases hE with rfl | rfl | rfl <;> decide)) (by simp) (by simp)
      exact wp_some ⟨hσ_46, frσ_46, (by (try dsimp only) <;> first | assumption | omega | ((try simp (disch := omega) only [w32_of, w64_of, w8_of]) <;> first | assumption | omega | (split <;> omega) | (refine And.intro ?_ ?_ <;> split <;> omega)) | omega)⟩
    · try simp (disch := omega) only [w32_of, w64_of, w8_of, decide_eq_true_eq, decide_eq_false_iff_not, Bool.not_eq_true] at c14
      exact wp_some ⟨hσ_38, frσ_38, (by (try dsimp only) <;> first | assumption | omega | ((try simp (disch := omega) only [w32_of, w64_of, w8_of]) <;> first | assumption | omega | (split <;> omega) | (refine And.intro ?_ ?_ <;> split <;> omega)) | omega)⟩
  rintro σ_50 _ ⟨hσ_50, frσ_50, g16⟩
  exact wp_some ⟨hσ_50, frσ_50⟩
theorem s_I_addSigned {σ : SG} {to_0 : Int} {one_0 : Int} {two_0 : Int} {factor_0 : Int} (hσ : II σ) (w0 : 0 ≤ to_0 ∧ to_0 ≤ 15) (w1 : 0 ≤ one_0 ∧ one_0 ≤ 15) (w2 : 0 ≤ two_0 ∧ two_0 ≤ 15) (w3 : -1 ≤ factor_0 ∧ factor_0 ≤ 1) : wp_ (fI_addSigned σ to_0 one_0 two_0 factor_0) (fun zz_ => II zz_ ∧ FC [65536, 65792, 66048, 66304, 66560, 66816, 67072, 67328, 67584, 67840, 68096, 68352, 68608, 68864, 69120, 69376, kI_sign, kI_used] [] σ zz_) := by
  unfold fI_addSigned
  have c1 := w32_rng two_0
  refine wp_rdI (by (try dsimp only) <;> first | assumption | omega | ((try simp (disch := omega) only [w32_of, w64_of, w8_of]) <;> first | assumption | omega | (split <;> omega) | (refine And.intro ?_ ?_ <;> split <;> omega)) | omega) (by (try dsimp only) <;> first | assumption | omega | ((try simp (disch := omega) only [w32_of, w64_of, w8_of]) <;> first | assumption | omega | (split <;> omega) | (refine And.intro ?_ ?_ <;> split <;> omega)) | omega) (fun x_1 e_x_1 => ?_)
  have b_x_1 : (-1) ≤ x_1 ∧ x_1 ≤ 1 := by rw [e_x_1]; exact ii_kI_sign hσ _
  try simp (disch := omega) only [w32_of, w64_of, w8_of] at e_x_1
  have c2 := ii_kI_sign hσ two_0
  have hm1 := sgn3_m (ii_kI_sign hσ two_0) w3
  have exm : x_1 * factor_0 = σ kI_sign two_0 * factor_0 := by rw [e_x_1]
  rw [← exm] at hm1
  refine wp_bd (P := fun rr_ => II rr_ ∧ FC [65536, 65792, 66048, 66304, 66560, 66816, 67072, 67328, 67584, 67840, 68096, 68352, 68608, 68864, 69120, 69376, kI_sign, kI_used] [] σ rr_ ∧ (True)) ?_ ?_
  · have c3 := w32_rng one_0
    refine wp_rdI (by (try dsimp only) <;> first | assumption | omega | ((try simp (disch := omega) only [w32_of, w64_of, w8_of]) <;> first | assumption | omega | (split <;> omega) | (refine And.intro ?_ ?_ <;> split <;> omega)) | omega) (by (try dsimp only) <;> first | assumption | omega | ((try simp (disch := omega) only [w32_of, w64_of, w8_of]) <;> first | assumption | omega | (split <;> omega) | (refine And.intro ?_ ?_ <;> split <;> omega)) | omega) (fun x_7 e_x_7 => ?_)
    have b_x_7 : (-1) ≤ x_7 ∧ x_7 ≤ 1 := by rw [e_x_7]; exact ii_kI_sign hσ _
    try simp (disch := omega) only [w32_of, w64_of, w8_of] at e_x_7
    have c4 := ii_kI_sign hσ one_0
    have hm2 := sgn3_m (a := x_7) (b := x_1 * factor_0) (by omega) hm1
    have c6 := w32_rng (x_7 * (x_1 * factor_0))
    refine wp_if (fun c5 => ?_) (fun c5 => ?_)
    · try simp (disch := omega) only [w32_of, w64_of, w8_of, decide_eq_true_eq, decide_eq_false_iff_not, Bool.not_eq_true] at c5
      refine wp_bd (P := fun rr_ => (-1 ≤ rr_ ∧ rr_ ≤ 1)) ?_ ?_
      · refine wp_rdI (by (try dsimp only) <;> first | assumption | omega | ((try simp (disch := omega) only [w32_of, w64_of, w8_of]) <;> first | assumption | omega | (split <;> omega) | (refine And.intro ?_ ?_ <;> split <;> omega)) | omega) (by (try dsimp only) <;> first | assumption | omega | ((try simp (disch := omega) only [w32_of, w64_of, w8_of]) <;> first | assumption | omega | (split <;> omega) | (refine And.intro ?_ ?_ <;> split <;> omega)) | omega) (fun x_10 e_x_10 => ?_)
        have b_x_10 : (-1) ≤ x_10 ∧ x_10 ≤ 1 := by rw [e_x_10]; exact ii_kI_sign hσ _
        try simp (disch := omega) only [w32_of, w64_of, w8_of] at e_x_10
        have c8 := w32_rng x_10
        refine wp_if (fun c7 => ?_) (fun c7 => ?_)
        · try simp (disch := omega) only [w32_of, w64_of, w8_of, decide_eq_true_eq, decide_eq_false_iff_not, Bool.not_eq_true] at c7
          refine wp_rdI (by (try dsimp only) <;> first | assumption | omega | ((try simp (disch := omega) only [w32_of, w64_of, w8_of]) <;> first | assumption | omega | (split <;> omega) | (refine And.intro ?_ ?_ <;> split <;> omega)) | omega) (by (try dsimp only) <;> first | assumption | omega | ((try simp (disch := omega) only [w32_of, w64_of, w8_of]) <;> first | assumption | omega | (split <;> omega) | (refine And.intro ?_ ?_ <;> split <;> omega)) | omega) (fun x_13 e_x_13 => ?_)
          have b_x_13 : (-1) ≤ x_13 ∧ x_13 ≤ 1 := by rw [e_x_13]; exact ii_kI_sign hσ _
          try simp (disch := omega) only [w32_of, w64_of, w8_of] at e_x_13
          exact wp_some (by (try dsimp only) <;> first | assumption | omega | ((try simp (disch := omega) only [w32_of, w64_of, w8_of]) <;> first | assumption | omega | (split <;> omega) | (refine And.intro ?_ ?_ <;> split <;> omega)) | omega)
        · try simp (disch := omega) only [w32_of, w64_of, w8_of, decide_eq_true_eq, decide_eq_false_iff_not, Bool.not_eq_true] at c7
          exact wp_some (by (try dsimp only) <;> first | assumption | omega | ((try simp (disch := omega) only [w32_of, w64_of, w8_of]) <;> first | assumption | omega | (split <;> omega) | (refine And.intro ?_ ?_ <;> split <;> omega)) | omega)
      rintro x_17 _ g9
      refine wp_bd (s_I_addLimbs (σ := σ) (to_0 := to_0) (one_0 := one_0) (two_0 := two_0) (factor_0 := 1) hσ (by (try dsimp only) <;> first | assumption | omega | ((try simp (disch := omega) only [w32_of, w64_of, w8_of]) <;> first | assumption | omega | (split <;> omega) | (refine And.intro ?_ ?_ <;> split <;> omega)) | omega) (by (try dsimp only) <;> first | assumption | omega | ((try simp (disch := omega) only [w32_of, w64_of, w8_of]) <;> first | assumption | omega | (split <;> omega) | (refine And.intro ?_ ?_ <;> split <;> omega)) | omega) (by (try dsimp only) <;> first | assumption | omega | ((try simp (disch := omega) only [w32_of, w64_of, w8_of]) <;> first | assumption | omega | (split <;> omega) | (refine And.intro ?_ ?_ <;> split <;> omega)) | omega)) ?_
      rintro σ_19 - ⟨hσ_19, flσ_19⟩
      have frσ_19 : FC [65536, 65792, 66048, 66304, 66560, 66816, 67072, 67328, 67584, 67840, 68096, 68352, 68608, 68864, 69120, 69376, kI_sign, kI_used] [] σ σ_19 := FC_le flσ_19 (by first | decide | (rcases hE with rfl | rfl | rfl <;> decide)) (by simp)
      have c10 := w32_rng to_0
      refine wp_waI hσ_19 b_kI_sign (by (try dsimp only) <;> first | assumption | omega | ((try simp (disch := omega) only [w32_of, w64_of, w8_of]) <;> first | assumption | omega | (split <;> omega) | (refine And.intro ?_ ?_ <;> split <;> omega)) | omega) (by (try dsimp only) <;> first | assumption | omega | ((try simp (disch := omega) only [w32_of, w64_of, w8_of]) <;> first | assumption | omega | (split <;> omega) | (refine And.intro ?_ ?_ <;> split <;> omega)) | omega) (by (try dsimp only) <;> first | assumption | omega | ((try simp (disch := omega) only [w32_of, w64_of, w8_of]) <;> first | assumption | omega | (split <;> omega) | (refine And.intro ?_ ?_ <;> split <;> omega)) | omega) (fun σ_20 hσ_20 eσ_20 => ?_)
      try simp (disch := omega) only [w32_of, w64_of, w8_of] at eσ_20
      have flσ_20 := FC_sg eσ_20 (by first | decide | (rcases hE with rfl | rfl | rfl <;> decide))
      have frσ_20 : FC [65536, 65792, 66048, 66304, 66560, 66816, 67072, 67328, 67584, 67840, 68096, 68352, 68608, 68864, 69120, 69376, kI_sign, kI_used] [] σ σ_20 := FC_tr frσ_19 flσ_20 (by first | decide | (rcases hE with rfl | rfl | rfl <;> decide)) (by first | decide | (rcases hE with rfl | rfl | rfl <;> decide)) (by simp) (by simp)
      exact wp_some ⟨hσ_20, frσ_20, (by (try dsimp only) <;> first | assumption | omega | ((try simp (disch := omega) only [w32_of, w64_of, w8_of]) <;> first | assumption | omega | (split <;> omega) | (refine And.intro ?_ ?_ <;> split <;> omega)) | omega)⟩
    · try simp (disch := omega) only [w32_of, w64_of, w8_of, decide_eq_true_eq, decide_eq_false_iff_not, Bool.not_eq_true] at c5
      refine wp_bd (P := fun rr_ => II rr_ ∧ FC [65536, 65792, 66048, 66304, 66560, 66816, 67072, 67328, 67584, 67840, 68096, 68352, 68608, 68864, 69120, 69376, kI_sign, kI_used] [] σ rr_ ∧ (True)) ?_ ?_
      · refine wp_bd (s_I_compareLimbs (σ := σ) (one_0 := one_0) (two_0 := two_0) hσ (by (try dsimp only) <;> first | assumption | omega | ((try simp (disch := omega) only [w32_of, w64_of, w8_of]) <;> first | assumption | omega | (split <;> omega) | (refine And.intro ?_ ?_ <;> split <;> omega)) | omega) (by (try dsimp only) <;> first | assumption | omega | ((try simp (disch := omega) only [w32_of, w64_of, w8_of]) <;> first | assumption | omega | (split <;> omega) | (refine And.intro ?_ ?_ <;> split <;> omega)) | omega)) ?_
        rintro x_32 - g11
        try simp (disch := omega) only [w32_of, w64_of, w8_of] at g11
        have c13 := w32_rng x_32
        refine wp_if (fun c12 => ?_) (fun c12 => ?_)
        · try simp (disch := omega) only [w32_of, w64_of, w8_of, decide_eq_true_eq, decide_eq_false_iff_not, Bool.not_eq_true] at c12
          refine wp_rdI (by (try dsimp only) <;> first | assumption | omega | ((try simp (disch := omega) only [w32_of, w64_of, w8_of]) <;> first | assumption | omega | (split <;> omega) | (refine And.intro ?_ ?_ <;> split <;> omega)) | omega) (by (try dsimp only) <;> first | assumption | omega | ((try simp (disch := omega) only [w32_of, w64_of, w8_of]) <;> first | assumption | omega | (split <;> omega) | (refine And.intro ?_ ?_ <;> split <;> omega)) | omega) (fun x_34 e_x_34 => ?_)
          have b_x_34 : (-1) ≤ x_34 ∧ x_34 ≤ 1 := by rw [e_x_34]; exact ii_kI_sign hσ _
          try simp (disch := omega) only [w32_of, w64_of, w8_of] at e_x_34
          have c14 := w32_rng to_0
          refine wp_waI hσ b_kI_sign (by (try dsimp only) <;> first | assumption | omega | ((try simp (disch := omega) only [w32_of, w64_of, w8_of]) <;> first | assumption | omega | (split <;> omega) | (refine And.intro ?_ ?_ <;> split <;> omega)) | omega) (by (try dsimp only) <;> first | assumption | omega | ((try simp (disch := omega) only [w32_of, w64_of, w8_of]) <;> first | assumption | omega | (split <;> omega) | (refine And.intro ?_ ?_ <;> split <;> omega)) | omega) (by (try dsimp only) <;> first | assumption | omega | ((try simp (disch := omega) only [w32_of, w64_of, w8_of]) <;> first | assumption | omega | (split <;> omega) | (refine And.intro ?_ ?_ <;> split <;> omega)) | omega) (fun σ_36 hσ_36 eσ_36 => ?_)
          try simp (disch := omega) only [w32_of, w64_of, w8_of] at eσ_36
          have flσ_36 := FC_sg eσ_36 (by first | decide | (rcases hE with rfl | rfl | rfl <;> decide))
          have frσ_36 : FC [65536, 65792, 66048, 66304, 66560, 66816, 67072, 67328, 67584, 67840, 68096, 68352, 68608, 68864, 69120, 69376, kI_sign, kI_used] [] σ σ_36 := FC_le flσ_36 (by first | decide | (rcases hE with rfl | rfl | rfl <;> decide)) (by simp)
          refine wp_bd (s_I_addLimbs (σ := σ_36) (to_0 := to_0) (one_0 := one_0) (two_0 := two_0) (factor_0 := (-1)) hσ_36 (by (try dsimp only) <;> first | assumption | omega | ((try simp (disch := omega) only [w32_of, w64_of, w8_of]) <;> first | assumption | omega | (split <;> omega) | (refine And.intro ?_ ?_ <;> split <;> omega)) | omega) (by (try dsimp only) <;> first | assumption | omega | ((try simp (disch := omega) only [w32_of, w64_of, w8_of]) <;> first | assumption | omega | (split <;> omega) | (refine And.intro ?_ ?_ <;> split <;> omega)) | omega) (by (try dsimp only) <;> first | assumption | omega | ((try simp (disch := omega) only [w32_of, w64_of, w8_of]) <;> first | assumption | omega | (split <;> omega) | (refine And.intro ?_ ?_ <;> split <;> omega)) | omega)) ?_
          rintro σ_39 - ⟨hσ_39, flσ_39⟩
          have frσ_39 : FC [65536, 65792, 66048, 66304, 66560, 66816, 67072, 67328, 67584, 67840, 68096, 68352, 68608, 68864, 69120, 69376, kI_sign, kI_used] [] σ σ_39 := FC_tr frσ_36 flσ_39 (by first | decide | (rcases hE with rfl | rfl | rfl <;> decide)) (by first | decide | (rcases hE with rfl | rfl | rfl <;> decide)) (by simp) (by simp)
          exact wp_some ⟨hσ_39, frσ_39, (by (try dsimp only) <;> first | assumption | omega | ((try simp (disch := omega) only [w32_of, w64_of, w8_of]) <;> first | assumption | omega | (split <;> omega) | (refine And.intro ?_ ?_ <;> split <;> omega)) | omega)⟩
        · try simp (disch := omega) only [w32_of, w64_of, w8_of, decide_eq_true_eq, decide_eq_false_iff_not, Bool.not_eq_true] at c12
          have c15 := w32_rng to_0
          refine wp_waI hσ b_kI_sign (by (try dsimp only) <;> first | assumption | omega | ((try simp (disch := omega) only [w32_of, w64_of, w8_of]) <;> first | assumption | omega | (split <;> omega) | (refine And.intro ?_ ?_ <;> split <;> omega)) | omega) (by (try dsimp only) <;> first | assumption | omega | ((try simp (disch := omega) only [w32_of, w64_of, w8_of]) <;> first | assumption | omega | (split <;> omega) | (refine And.intro ?_ ?_ <;> split <;> omega)) | omega) (by (try dsimp only) <;> first | assumption | omega | ((try simp (disch := omega) only [w32_of, w64_of, w8_of]) <;> first | assumption | omega | (split <;> omega) | (refine And.intro ?_ ?_ <;> split <;> omega)) | omega) (fun σ_41 hσ_41 eσ_41 => ?_)
          try simp (disch := omega) only [w32_of, w64_of, w8_of] at eσ_41
          have flσ_41 := FC_sg eσ_41 (by first | decide | (rcases hE with rfl | rfl | rfl <;> decide))
          have frσ_41 : FC [65536, 65792, 66048, 66304, 66560, 66816, 67072, 67328, 67584, 67840, 68096, 68352, 68608, 68864, 69120, 69376, kI_sign, kI_used] [] σ σ_41 := FC_le flσ_41 (by first | decide | (rcases hE with rfl | rfl | rfl <;> decide)) (by simp)
          refine wp_bd (s_I_addLimbs (σ := σ_41) (to_0 := to_0) (one_0 := two_0) (two_0 := one_0) (factor_0 := (-1)) hσ_41 (by (try dsimp only) <;> first | assumption | omega | ((try simp (disch := omega) only [w32_of, w64_of, w8_of]) <;> first | assumption | omega | (split <;> omega) | (refine And.intro ?_ ?_ <;> split <;> omega)) | omega) (by (try dsimp only) <;> first | assumption | omega | ((try simp (disch := omega) only [w32_of, w64_of, w8_of]) <;> first | assumption | omega | (split <;> omega) | (refine And.intro ?_ ?_ <;> split <;> omega)) | omega) (by (try dsimp only) <;> first | assumption | omega | ((try simp (disch := omega) only [w32_of, w64_of, w8_of]) <;> first | assumption | omega | (split <;> omega) | (refine And.intro ?_ ?_ <;> split <;> omega)) | omega)) ?_
          rintro σ_44 - ⟨hσ_44, flσ_44⟩
          have frσ_44 : FC [65536, 65792, 66048, 66304, 66560, 66816, 67072, 67328, 67584, 67840, 68096, 68352, 68608, 68864, 69120, 69376, kI_sign, kI_used] [] σ σ_44 := FC_tr frσ_41 flσ_44 (by first | decide | (rcases hE with rfl | rfl | rfl <;> decide)) (by first | decide | (rcases hE with rfl | rfl | rfl <;> decide)) (by simp) (by simp)
          exact wp_some ⟨hσ_44, frσ_44, (by (try dsimp only) <;> first | assumption | omega | ((try simp (disch := omega) only [w32_of, w64_of, w8_of]) <;> first | assumption | omega | (split <;> omega) | (refine And.intro ?_ ?_ <;> split <;> omega)) | omega)⟩
      rintro σ_46 _ ⟨hσ_46, frσ_46, g16⟩
      exact wp_some ⟨hσ_46, frσ_46, (by (try dsimp only) <;> first | assumption | omega | ((try simp (disch := omega) only [w32_of, w64_of, w8_of]) <;> first | assumption | omega | (split <;> omega) | (refine And.intro ?_ ?_ <;> split <;> omega)) | omega)⟩
  rintro σ_49 _ ⟨hσ_49, frσ_49, g17⟩
  refine wp_bd (s_I_trim (σ := σ_49) (register_0 := to_0) hσ_49 (by (try dsimp only) <;> first | assumption | omega | ((try simp (disch := omega) only [w32_of, w64_of, w8_of]) <;> first | assumption | omega | (split <;> omega) | (refine And.intro ?_ ?_ <;> split <;> omega)) | omega)) ?_
  rintro σ_51 - ⟨hσ_51, flσ_51⟩
  have frσ_51 : FC [65536, 65792, 66048, 66304, 66560, 66816, 67072, 67328, 67584, 67840, 68096, 68352, 68608, 68864, 69120, 69376, kI_sign, kI_used] [] σ σ_51 := FC_tr frσ_49 flσ_51 (by first | decide | (rcases hE with rfl | rfl | rfl <;> decide)) (by first | decide | (rcases hE with rfl | rfl | rfl <;> decide)) (by simp) (by simp)
  exact wp_some ⟨hσ_51, frσ_51⟩
theorem s_I_load {σ : SG} {to_0 : Int} {bits_0 : Int} (hσ : II σ) (w0 : 0 ≤ to_0 ∧ to_0 ≤ 15) : wp_ (fI_load σ to_0 bits_0) (fun zz_ => II zz_ ∧ FC [65536, 65792, 66048, 66304, 66560, 66816, 67072, 67328, 67584, 67840, 68096, 68352, 68608, 68864, 69120, 69376, kI_sign, kI_used] [] σ zz_) := by
  unfold fI_load
  have hw0 := w32_of (x := to_0) (by omega) (by omega)
  have hb1 := q_ian_bd (q_lus bits_0 52) (m := 2047) (by decide) (by decide)
  have hb2 := q_mxi_bd ((q_ian (q_lus bits_0 52) 2047) - 1) 0
  rw [w32_of (x := (q_ian (q_lus bits_0 52) 2047) - 1) (by omega) (by omega), w32_of (x := 0) (by decide) (by decide)] at hb2
  have hb3 := isr5 (x := q_mxi ((q_ian (q_lus bits_0 52) 2047) - 1) 0) (by omega) (by omega)
  have c1 := q_lus_rng bits_0 52
  have c2 := q_ian_bd (q_lus bits_0 52) (m := 2047) (by decide) (by decide)
  try simp (disch := omega) only [w32_of, w64_of, w8_of] at c2
  have c3 := w32_rng (q_ian (q_lus bits_0 52) 2047)
  have c4 := q_lan_bd bits_0 (m := 4503599627370495) (by decide) (by decide)
  try simp (disch := omega) only [w32_of, w64_of, w8_of] at c4
  refine wp_lt (fun x_2 e_x_2 => ?_)
  try simp (disch := omega) only [w32_of, w64_of, w8_of] at e_x_2
  have c5 := q_mxi_bd ((q_ian (q_lus bits_0 52) 2047) - 1) 0
  try simp (disch := omega) only [w32_of, w64_of, w8_of] at c5
  have c6 := q_ian_bd (q_mxi ((q_ian (q_lus bits_0 52) 2047) - 1) 0) (m := 31) (by decide) (by decide)
  try simp (disch := omega) only [w32_of, w64_of, w8_of] at c6
  refine wp_lt (fun x_3 e_x_3 => ?_)
  try simp (disch := omega) only [w32_of, w64_of, w8_of] at e_x_3
  have c7 := w32_rng to_0
  refine wp_ck (by (try dsimp only) <;> first | assumption | omega | ((try simp (disch := omega) only [w32_of, w64_of, w8_of]) <;> first | assumption | omega | (split <;> omega) | (refine And.intro ?_ ?_ <;> split <;> omega)) | omega) ?_
  have c8 := q_isr_rng (q_mxi ((q_ian (q_lus bits_0 52) 2047) - 1) 0) 5
  refine wp_bd (v_fillIR (σ := σ) (a_0 := (256 + ((w32 to_0)).toNat)) (a_n := 280) (fromIndex_0 := 0) (toIndex_0 := ((q_isr (q_mxi ((q_ian (q_lus bits_0 52) 2047) - 1) 0) 5) + 3)) (val_0 := 0) hσ (by omega) (by rw [bI_limb (by omega)]; trivial) (by decide) (by (try dsimp only) <;> first | assumption | omega | ((try simp (disch := omega) only [w32_of, w64_of, w8_of]) <;> first | assumption | omega | (split <;> omega) | (refine And.intro ?_ ?_ <;> split <;> omega)) | omega)) ?_
  rintro σ_6 - ⟨hσ_6, flσ_6r, g9⟩
  have flσ_6 := FC_lf flσ_6r (by (try dsimp only) <;> first | assumption | omega | ((try simp (disch := omega) only [w32_of, w64_of, w8_of]) <;> first | assumption | omega | (split <;> omega) | (refine And.intro ?_ ?_ <;> split <;> omega)) | omega)
  have frσ_6 : FC [65536, 65792, 66048, 66304, 66560, 66816, 67072, 67328, 67584, 67840, 68096, 68352, 68608, 68864, 69120, 69376, kI_sign, kI_used] [] σ σ_6 := FC_le flσ_6 (by first | decide | (rcases hE with rfl | rfl | rfl <;> decide)) (by simp)
  try simp (disch := omega) only [w32_of, w64_of, w8_of] at g9
  have c10 := q_lus_rng x_2 32
  have c11 := q_lsl_rng (q_lus x_2 32) x_3
  have c12 := q_lan_bd x_2 (m := 4294967295) (by decide) (by decide)
  try simp (disch := omega) only [w32_of, w64_of, w8_of] at c12
  have c13 := q_lsl_rng (q_lan x_2 4294967295) x_3
  have c14 := q_lus_rng (q_lsl (q_lan x_2 4294967295) x_3) 32
  refine wp_lt (fun x_7 e_x_7 => ?_)
  try simp (disch := omega) only [w32_of, w64_of, w8_of] at e_x_7
  refine wp_ck (by (try dsimp only) <;> first | assumption | omega | ((try simp (disch := omega) only [w32_of, w64_of, w8_of]) <;> first | assumption | omega | (split <;> omega) | (refine And.intro ?_ ?_ <;> split <;> omega)) | omega) ?_
  have c15 := w32_rng (q_isr (q_mxi ((q_ian (q_lus bits_0 52) 2047) - 1) 0) 5)
  refine wp_waN hσ_6 (bI_limb (by (try dsimp only) <;> first | assumption | omega | ((try simp (disch := omega) only [w32_of, w64_of, w8_of]) <;> first | assumption | omega | (split <;> omega) | (refine And.intro ?_ ?_ <;> split <;> omega)) | omega)) (by (try dsimp only) <;> first | assumption | omega | ((try simp (disch := omega) only [w32_of, w64_of, w8_of]) <;> first | assumption | omega | (split <;> omega) | (refine And.intro ?_ ?_ <;> split <;> omega)) | omega) (by (try dsimp only) <;> first | assumption | omega | ((try simp (disch := omega) only [w32_of, w64_of, w8_of]) <;> first | assumption | omega | (split <;> omega) | (refine And.intro ?_ ?_ <;> split <;> omega)) | omega) (fun σ_9 hσ_9 eσ_9 => ?_)
  try simp (disch := omega) only [w32_of, w64_of, w8_of] at eσ_9
  have flσ_9 := FC_li eσ_9 (by (try dsimp only) <;> first | assumption | omega | ((try simp (disch := omega) only [w32_of, w64_of, w8_of]) <;> first | assumption | omega | (split <;> omega) | (refine And.intro ?_ ?_ <;> split <;> omega)) | omega)
  have frσ_9 : FC [65536, 65792, 66048, 66304, 66560, 66816, 67072, 67328, 67584, 67840, 68096, 68352, 68608, 68864, 69120, 69376, kI_sign, kI_used] [] σ σ_9 := FC_tr frσ_6 flσ_9 (by first | decide | (rcases hE with rfl | rfl | rfl <;> decide)) (by first | decide | (rcases hE with rfl | rfl | rfl <;> decide)) (by simp) (by simp)
  refine wp_ck (by (try dsimp only) <;> first | assumption | omega | ((try simp (disch := omega) only [w32_of, w64_of, w8_of]) <;> first | assumption | omega | (split <;> omega) | (refine And.intro ?_ ?_ <;> split <;> omega)) | omega) ?_
  have c16 := w32_rng ((q_isr (q_mxi ((q_ian (q_lus bits_0 52) 2047) - 1) 0) 5) + 1)
  refine wp_waN hσ_9 (bI_limb (by (try dsimp only) <;> first | assumption | omega | ((try simp (disch := omega) only [w32_of, w64_of, w8_of]) <;> first | assumption | omega | (split <;> omega) | (refine And.intro ?_ ?_ <;> split <;> omega)) | omega)) (by (try dsimp only) <;> first | assumption | omega | ((try simp (disch := omega) only [w32_of, w64_of, w8_of]) <;> first | assumption | omega | (split <;> omega) | (refine And.intro ?_ ?_ <;> split <;> omega)) | omega) (by (try dsimp only) <;> first | assumption | omega | ((try simp (disch := omega) only [w32_of, w64_of, w8_of]) <;> first | assumption | omega | (split <;> omega) | (refine And.intro ?_ ?_ <;> split <;> omega)) | omega) (fun σ_12 hσ_12 eσ_12 => ?_)
  try simp (disch := omega) only [w32_of, w64_of, w8_of] at eσ_12
  have flσ_12 := FC_li eσ_12 (by (try dsimp only) <;> first | assumption | omega | ((try simp (disch := omega) only [w32_of, w64_of, w8_of]) <;> first | assumption | omega | (split <;> omega) | (refine And.intro ?_ ?_ <;> split <;> omega)) | omega)
  have frσ_12 : FC [65536, 65792, 66048, 66304, 66560, 66816, 67072, 67328, 67584, 67840, 68096, 68352, 68608, 68864, 69120, 69376, kI_sign, kI_used] [] σ σ_12 := FC_tr frσ_9 flσ_12 (by first | decide | (rcases hE with rfl | rfl | rfl <;> decide)) (by first | decide | (rcases hE with rfl | rfl | rfl <;> decide)) (by simp) (by simp)
  refine wp_ck (by (try dsimp only) <;> first | assumption | omega | ((try simp (disch := omega) only [w32_of, w64_of, w8_of]) <;> first | assumption | omega | (split <;> omega) | (refine And.intro ?_ ?_ <;> split <;> omega)) | omega) ?_
  have c17 := q_lus_rng x_7 32
  have c18 := w32_rng ((q_isr (q_mxi ((q_ian (q_lus bits_0 52) 2047) - 1) 0) 5) + 2)
  refine wp_waN hσ_12 (bI_limb (by (try dsimp only) <;> first | assumption | omega | ((try simp (disch := omega) only [w32_of, w64_of, w8_of]) <;> first | assumption | omega | (split <;> omega) | (refine And.intro ?_ ?_ <;> split <;> omega)) | omega)) (by (try dsimp only) <;> first | assumption | omega | ((try simp (disch := omega) only [w32_of, w64_of, w8_of]) <;> first | assumption | omega | (split <;> omega) | (refine And.intro ?_ ?_ <;> split <;> omega)) | omega) (by (try dsimp only) <;> first | assumption | omega | ((try simp (disch := omega) only [w32_of, w64_of, w8_of]) <;> first | assumption | omega | (split <;> omega) | (refine And.intro ?_ ?_ <;> split <;> omega)) | omega) (fun σ_15 hσ_15 eσ_15 => ?_)
  try simp (disch := omega) only [w32_of, w64_of, w8_of] at eσ_15
  have flσ_15 := FC_li eσ_15 (by (try dsimp only) <;> first | assumption | omega | ((try simp (disch := omega) only [w32_of, w64_of, w8_of]) <;> first | assumption | omega | (split <;> omega) | (refine And.intro ?_ ?_ <;> split <;> omega)) | omega)
  have frσ_15 : FC [65536, 65792, 66048, 66304, 66560, 66816, 67072, 67328, 67584, 67840, 68096, 68352, 68608, 68864, 69120, 69376, kI_sign, kI_used] [] σ σ_15 := FC_tr frσ_12 flσ_15 (by first | decide | (rcases hE with rfl | rfl | rfl <;> decide)) (by first | decide | (rcases hE with rfl | rfl | rfl <;> decide)) (by simp) (by simp)
  refine wp_waI hσ_15 b_kI_used (by (try dsimp only) <;> first | assumption | omega | ((try simp (disch := omega) only [w32_of, w64_of, w8_of]) <;> first | assumption | omega | (split <;> omega) | (refine And.intro ?_ ?_ <;> split <;> omega)) | omega) (by (try dsimp only) <;> first | assumption | omega | ((try simp (disch := omega) only [w32_of, w64_of, w8_of]) <;> first | assumption | omega | (split <;> omega) | (refine And.intro ?_ ?_ <;> split <;> omega)) | omega) (by (try dsimp only) <;> first | assumption | omega | ((try simp (disch := omega) only [w32_of, w64_of, w8_of]) <;> first | assumption | omega | (split <;> omega) | (refine And.intro ?_ ?_ <;> split <;> omega)) | omega) (fun σ_17 hσ_17 eσ_17 => ?_)
  try simp (disch := omega) only [w32_of, w64_of, w8_of] at eσ_17
  have flσ_17 := FC_sg eσ_17 (by first | decide | (rcases hE with rfl | rfl | rfl <;> decide))
  have frσ_17 : FC [65536, 65792, 66048, 66304, 66560, 66816, 67072, 67328, 67584, 67840, 68096, 68352, 68608, 68864, 69120, 69376, kI_sign, kI_used] [] σ σ_17 := FC_tr frσ_15 flσ_17 (by first | decide | (rcases hE with rfl | rfl | rfl <;> decide)) (by first | decide | (rcases hE with rfl | rfl | rfl <;> decide)) (by simp) (by simp)
  have c19 := w64_rng bits_0
  refine wp_waI hσ_17 b_kI_sign (by (try dsimp only) <;> first | assumption | omega | ((try simp (disch := omega) only [w32_of, w64_of, w8_of]) <;> first | assumption | omega | (split <;> omega) | (refine And.intro ?_ ?_ <;> split <;> omega)) | omega) (by (try dsimp only) <;> first | assumption | omega | ((try simp (disch := omega) only [w32_of, w64_of, w8_of]) <;> first | assumption | omega | (split <;> omega) | (refine And.intro ?_ ?_ <;> split <;> omega)) | omega) (by (try dsimp only) <;> first | assumption | omega | ((try simp (disch := omega) only [w32_of, w64_of, w8_of]) <;> first | assumption | omega | (split <;> omega) | (refine And.intro ?_ ?_ <;> split <;> omega)) | omega) (fun σ_20 hσ_20 eσ_20 => ?_)
  try simp (disch := omega) only [w32_of, w64_of, w8_of] at eσ_20
  have flσ_20 := FC_sg eσ_20 (by first | decide | (rcases hE with rfl | rfl | rfl <;> decide))
  have frσ_20 : FC [65536, 65792, 66048, 66304, 66560, 66816, 67072, 67328, 67584, 67840, 68096, 68352, 68608, 68864, 69120, 69376, kI_sign, kI_used] [] σ σ_20 := FC_tr frσ_17 flσ_20 (by first | decide | (rcases hE with rfl | rfl | rfl <;> decide)) (by first | decide | (rcases hE with rfl | rfl | rfl <;> decide)) (by simp) (by simp)
  refine wp_bd (s_I_trim (σ := σ_20) (register_0 := to_0) hσ_20 (by (try dsimp only) <;> first | assumption | omega | ((try simp (disch := omega) only [w32_of, w64_of, w8_of]) <;> first | assumption | omega | (split <;> omega) | (refine And.intro ?_ ?_ <;> split <;> omega)) | omega)) ?_
  rintro σ_23 - ⟨hσ_23, flσ_23⟩
  have frσ_23 : FC [65536, 65792, 66048, 66304, 66560, 66816, 67072, 67328, 67584, 67840, 68096, 68352, 68608, 68864, 69120, 69376, kI_sign, kI_used] [] σ σ_23 := FC_tr frσ_20 flσ_23 (by first | decide | (rcases hE with rfl | rfl | rfl <;> decide)) (by first | decide | (rcases hE with rfl | rfl | rfl <;> decide)) (by simp) (by simp)
  exact wp_some ⟨hσ_23, frσ_23⟩
theorem s_I_difference {σ : SG} {to_0 : Int} {bits_0 : Int} {less_0 : Int} (hσ : II σ) (w0 : 0 ≤ to_0 ∧ to_0 ≤ 15) : wp_ (fI_difference σ to_0 bits_0 less_0) (fun zz_ => II zz_ ∧ FC [65536, 65792, 66048, 66304, 66560, 66816, 67072, 67328, 67584, 67840, 68096, 68352, 68608, 68864, 69120, 69376, kI_sign, kI_used] [] σ zz_) := by
  unfold fI_difference
  refine wp_bd (s_I_load (σ := σ) (to_0 := 0) (bits_0 := bits_0) hσ (by (try dsimp only) <;> first | assumption | omega | ((try simp (disch := omega) only [w32_of, w64_of, w8_of]) <;> first | assumption | omega | (split <;> omega) | (refine And.intro ?_ ?_ <;> split <;> omega)) | omega)) ?_
  rintro σ_2 - ⟨hσ_2, flσ_2⟩
  have frσ_2 : FC [65536, 65792, 66048, 66304, 66560, 66816, 67072, 67328, 67584, 67840, 68096, 68352, 68608, 68864, 69120, 69376, kI_sign, kI_used] [] σ σ_2 := FC_le flσ_2 (by first | decide | (rcases hE with rfl | rfl | rfl <;> decide)) (by simp)
  refine wp_bd (s_I_load (σ := σ_2) (to_0 := 1) (bits_0 := less_0) hσ_2 (by (try dsimp only) <;> first | assumption | omega | ((try simp (disch := omega) only [w32_of, w64_of, w8_of]) <;> first | assumption | omega | (split <;> omega) | (refine And.intro ?_ ?_ <;> split <;> omega)) | omega)) ?_
  rintro σ_4 - ⟨hσ_4, flσ_4⟩
  have frσ_4 : FC [65536, 65792, 66048, 66304, 66560, 66816, 67072, 67328, 67584, 67840, 68096, 68352, 68608, 68864, 69120, 69376, kI_sign, kI_used] [] σ σ_4 := FC_tr frσ_2 flσ_4 (by first | decide | (rcases hE with rfl | rfl | rfl <;> decide)) (by first | decide | (rcases hE with rfl | rfl | rfl <;> decide)) (by simp) (by simp)
  refine wp_bd (s_I_addSigned (σ := σ_4) (to_0 := to_0) (one_0 := 0) (two_0 := 1) (factor_0 := (-1)) hσ_4 (by (try dsimp only) <;> first | assumption | omega | ((try simp (disch := omega) only [w32_of, w64_of, w8_of]) <;> first | assumption | omega | (split <;> omega) | (refine And.intro ?_ ?_ <;> split <;> omega)) | omega) (by (try dsimp only) <;> first | assumption | omega | ((try simp (disch := omega) only [w32_of, w64_of, w8_of]) <;> first | assumption | omega | (split <;> omega) | (refine And.intro ?_ ?_ <;> split <;> omega)) | omega) (by (try dsimp only) <;> first | assumption | omega | ((try simp (disch := omega) only [w32_of, w64_of, w8_of]) <;> first | assumption | omega | (split <;> omega) | (refine And.intro ?_ ?_ <;> split <;> omega)) | omega) (by (try dsimp only) <;> first | assumption | omega | ((try simp (disch := omega) only [w32_of, w64_of, w8_of]) <;> first | assumption | omega | (split <;> omega) | (refine And.intro ?_ ?_ <;> split <;> omega)) | omega)) ?_
  rintro σ_6 - ⟨hσ_6, flσ_6⟩
  have frσ_6 : FC [65536, 65792, 66048, 66304, 66560, 66816, 67072, 67328, 67584, 67840, 68096, 68352, 68608, 68864, 69120, 69376, kI_sign, kI_used] [] σ σ_6 := FC_tr frσ_4 flσ_6 (by first | decide | (rcases hE with rfl | rfl | rfl <;> decide)) (by first | decide | (rcases hE with rfl | rfl | rfl <;> decide)) (by simp) (by simp)
  exact wp_some ⟨hσ_6, frσ_6⟩
theorem s_I_multiply {σ : SG} {to_0 : Int} {one_0 : Int} {two_0 : Int} (hσ : II σ) (w0 : 0 ≤ to_0 ∧ to_0 ≤ 15) (w1 : 0 ≤ one_0 ∧ one_0 ≤ 15) (w2 : 0 ≤ two_0 ∧ two_0 ≤ 15) : wp_ (fI_multiply σ to_0 one_0 two_0) (fun zz_ => II zz_ ∧ FC [65536, 65792, 66048, 66304, 66560, 66816, 67072, 67328, 67584, 67840, 68096, 68352, 68608, 68864, 69120, 69376, kI_sign, kI_used] [] σ zz_) := by
  unfold fI_multiply
  have hw0 := w32_of (x := to_0) (by omega) (by omega)
  have hu1 := ii_kI_used hσ one_0
  have hu2 := ii_kI_used hσ two_0
  have c1 := w32_rng one_0
  refine wp_rdI (by (try dsimp only) <;> first | assumption | omega | ((try simp (disch := omega) only [w32_of, w64_of, w8_of]) <;> first | assumption | omega | (split <;> omega) | (refine And.intro ?_ ?_ <;> split <;> omega)) | omega) (by (try dsimp only) <;> first | assumption | omega | ((try simp (disch := omega) only [w32_of, w64_of, w8_of]) <;> first | assumption | omega | (split <;> omega) | (refine And.intro ?_ ?_ <;> split <;> omega)) | omega) (fun x_1 e_x_1 => ?_)
  have b_x_1 : 0 ≤ x_1 ∧ x_1 ≤ 280 := by rw [e_x_1]; exact ii_kI_used hσ _
  try simp (disch := omega) only [w32_of, w64_of, w8_of] at e_x_1
  have c2 := ii_kI_used hσ one_0
  have c3 := w32_rng two_0
  refine wp_rdI (by (try dsimp only) <;> first | assumption | omega | ((try simp (disch := omega) only [w32_of, w64_of, w8_of]) <;> first | assumption | omega | (split <;> omega) | (refine And.intro ?_ ?_ <;> split <;> omega)) | omega) (by (try dsimp only) <;> first | assumption | omega | ((try simp (disch := omega) only [w32_of, w64_of, w8_of]) <;> first | assumption | omega | (split <;> omega) | (refine And.intro ?_ ?_ <;> split <;> omega)) | omega) (fun x_3 e_x_3 => ?_)
  have b_x_3 : 0 ≤ x_3 ∧ x_3 ≤ 280 := by rw [e_x_3]; exact ii_kI_used hσ _
  try simp (disch := omega) only [w32_of, w64_of, w8_of] at e_x_3
  have c4 := ii_kI_used hσ two_0
  have c5 := w32_rng to_0
  refine wp_ck (by (try dsimp only) <;> first | assumption | omega | ((try simp (disch := omega) only [w32_of, w64_of, w8_of]) <;> first | assumption | omega | (split <;> omega) | (refine And.intro ?_ ?_ <;> split <;> omega)) | omega) ?_
  have c6 := q_mni_bd (x_1 + x_3) 280
  try simp (disch := omega) only [w32_of, w64_of, w8_of] at c6
  refine wp_bd (v_fillIR (σ := σ) (a_0 := (256 + ((w32 to_0)).toNat)) (a_n := 280) (fromIndex_0 := 0) (toIndex_0 := (q_mni (x_1 + x_3) 280)) (val_0 := 0) hσ (by omega) (by rw [bI_limb (by omega)]; trivial) (by decide) (by (try dsimp only) <;> first | assumption | omega | ((try simp (disch := omega) only [w32_of, w64_of, w8_of]) <;> first | assumption | omega | (split <;> omega) | (refine And.intro ?_ ?_ <;> split <;> omega)) | omega)) ?_
  rintro σ_7 - ⟨hσ_7, flσ_7r, g7⟩
  have flσ_7 := FC_lf flσ_7r (by (try dsimp only) <;> first | assumption | omega | ((try simp (disch := omega) only [w32_of, w64_of, w8_of]) <;> first | assumption | omega | (split <;> omega) | (refine And.intro ?_ ?_ <;> split <;> omega)) | omega)
  have frσ_7 : FC [65536, 65792, 66048, 66304, 66560, 66816, 67072, 67328, 67584, 67840, 68096, 68352, 68608, 68864, 69120, 69376, kI_sign, kI_used] [] σ σ_7 := FC_le flσ_7 (by first | decide | (rcases hE with rfl | rfl | rfl <;> decide)) (by simp)
  try simp (disch := omega) only [w32_of, w64_of, w8_of] at g7
  refine wp_bd (P := fun rr_ => II rr_.2 ∧ FC [65536, 65792, 66048, 66304, 66560, 66816, 67072, 67328, 67584, 67840, 68096, 68352, 68608, 68864, 69120, 69376, kI_sign, kI_used] [] σ rr_.2 ∧ (True)) ?_ ?_
  · refine wp_whl (fun ss_ => II ss_.2 ∧ FC [65536, 65792, 66048, 66304, 66560, 66816, 67072, 67328, 67584, 67840, 68096, 68352, 68608, 68864, 69120, 69376, kI_sign, kI_used] [] σ ss_.2 ∧ (0 ≤ ss_.1 ∧ ss_.1 ≤ 280)) (fun ss_ => (281 - ss_.1).toNat) ⟨hσ_7, frσ_7, (by (try dsimp only) <;> first | assumption | omega | ((try simp (disch := omega) only [w32_of, w64_of, w8_of]) <;> first | assumption | omega | (split <;> omega) | (refine And.intro ?_ ?_ <;> split <;> omega)) | omega)⟩ ?_
    rintro ⟨i_8, σ_9⟩ y9
    try dsimp only at y9 ⊢
    obtain ⟨hσ_9, frσ_9, g8⟩ := y9
    refine wp_rdI (by (try dsimp only) <;> first | assumption | omega | ((try simp (disch := omega) only [w32_of, w64_of, w8_of]) <;> first | assumption | omega | (split <;> omega) | (refine And.intro ?_ ?_ <;> split <;> omega)) | omega) (by (try dsimp only) <;> first | assumption | omega | ((try simp (disch := omega) only [w32_of, w64_of, w8_of]) <;> first | assumption | omega | (split <;> omega) | (refine And.intro ?_ ?_ <;> split <;> omega)) | omega) (fun x_17 e_x_17 => ?_)
    have b_x_17 : 0 ≤ x_17 ∧ x_17 ≤ 280 := by rw [e_x_17]; exact ii_kI_used hσ_9 _
    try simp (disch := omega) only [w32_of, w64_of, w8_of] at e_x_17
    have c10 := ii_kI_used hσ_9 one_0
    have c12 := w32_rng i_8
    have c13 := w32_rng x_17
    refine wp_if (fun c11 => ?_) (fun c11 => ?_)
    · try simp (disch := omega) only [w32_of, w64_of, w8_of, decide_eq_true_eq, decide_eq_false_iff_not, Bool.not_eq_true] at c11
      refine wp_bd (s_I_limbAt (σ := σ_9) (register_0 := one_0) (i_0 := i_8) hσ_9 (by (try dsimp only) <;> first | assumption | omega | ((try simp (disch := omega) only [w32_of, w64_of, w8_of]) <;> first | assumption | omega | (split <;> omega) | (refine And.intro ?_ ?_ <;> split <;> omega)) | omega) (by (try dsimp only) <;> first | assumption | omega | ((try simp (disch := omega) only [w32_of, w64_of, w8_of]) <;> first | assumption | omega | (split <;> omega) | (refine And.intro ?_ ?_ <;> split <;> omega)) | omega)) ?_
      rintro x_21 - g14
      try simp (disch := omega) only [w32_of, w64_of, w8_of] at g14
      have c16 := w64_rng x_21
      refine wp_if (fun c15 => ?_) (fun c15 => ?_)
      · try simp (disch := omega) only [w32_of, w64_of, w8_of, decide_eq_true_eq, decide_eq_false_iff_not, Bool.not_eq_true] at c15
        exact wp_some (x_inl ⟨⟨hσ_9, frσ_9, (by (try dsimp only) <;> first | assumption | omega | ((try simp (disch := omega) only [w32_of, w64_of, w8_of]) <;> first | assumption | omega | (split <;> omega) | (refine And.intro ?_ ?_ <;> split <;> omega)) | omega)⟩, (by (try dsimp only) <;> first | assumption | omega | ((try simp (disch := omega) only [w32_of, w64_of, w8_of]) <;> first | assumption | omega | (split <;> omega) | (refine And.intro ?_ ?_ <;> split <;> omega)) | omega)⟩)
      · try simp (disch := omega) only [w32_of, w64_of, w8_of, decide_eq_true_eq, decide_eq_false_iff_not, Bool.not_eq_true] at c15
        refine wp_bd (P := fun rr_ => II rr_.2.2 ∧ FC [65536, 65792, 66048, 66304, 66560, 66816, 67072, 67328, 67584, 67840, 68096, 68352, 68608, 68864, 69120, 69376, kI_sign, kI_used] [] σ rr_.2.2 ∧ (True)) ?_ ?_
        · refine wp_whl (fun ss_ => II ss_.2.2 ∧ FC [65536, 65792, 66048, 66304, 66560, 66816, 67072, 67328, 67584, 67840, 68096, 68352, 68608, 68864, 69120, 69376, kI_sign, kI_used] [] σ ss_.2.2 ∧ (0 ≤ ss_.2.1 ∧ ss_.2.1 ≤ 281)) (fun ss_ => (282 - ss_.2.1).toNat) ⟨hσ_9, frσ_9, (by (try dsimp only) <;> first | assumption | omega | ((try simp (disch := omega) only [w32_of, w64_of, w8_of]) <;> first | assumption | omega | (split <;> omega) | (refine And.intro ?_ ?_ <;> split <;> omega)) | omega)⟩ ?_
          rintro ⟨carry_24, k_25, σ_26⟩ y18
          try dsimp only at y18 ⊢
          obtain ⟨hσ_26, frσ_26, g17⟩ := y18
          refine wp_rdI (by (try dsimp only) <;> first | assumption | omega | ((try simp (disch := omega) only [w32_of, w64_of, w8_of]) <;> first | assumption | omega | (split <;> omega) | (refine And.intro ?_ ?_ <;> split <;> omega)) | omega) (by (try dsimp only) <;> first | assumption | omega | ((try simp (disch := omega) only [w32_of, w64_of, w8_of]) <;> first | assumption | omega | (split <;> omega) | (refine And.intro ?_ ?_ <;> split <;> omega)) | omega) (fun x_42 e_x_42 => ?_)
          have b_x_42 : 0 ≤ x_42 ∧ x_42 ≤ 280 := by rw [e_x_42]; exact ii_kI_used hσ_26 _
          try simp (disch := omega) only [w32_of, w64_of, w8_of] at e_x_42
          have c19 := ii_kI_used hσ_26 two_0
          have c21 := w32_rng k_25
          have c22 := w32_rng x_42
          refine wp_if (fun c20 => ?_) (fun c20 => ?_)
          · try simp (disch := omega) only [w32_of, w64_of, w8_of, decide_eq_true_eq, decide_eq_false_iff_not, Bool.not_eq_true] at c20
            have c24 := w32_rng (i_8 + k_25)
            have c25 := w32_rng (q_mni (x_1 + x_3) 280)
            refine wp_if (fun c23 => ?_) (fun c23 => ?_)
            · try simp (disch := omega) only [w32_of, w64_of, w8_of, decide_eq_true_eq, decide_eq_false_iff_not, Bool.not_eq_true] at c23
              refine wp_bd (s_I_limbAt (σ := σ_26) (register_0 := two_0) (i_0 := k_25) hσ_26 (by (try dsimp only) <;> first | assumption | omega | ((try simp (disch := omega) only [w32_of, w64_of, w8_of]) <;> first | assumption | omega | (split <;> omega) | (refine And.intro ?_ ?_ <;> split <;> omega)) | omega) (by (try dsimp only) <;> first | assumption | omega | ((try simp (disch := omega) only [w32_of, w64_of, w8_of]) <;> first | assumption | omega | (split <;> omega) | (refine And.intro ?_ ?_ <;> split <;> omega)) | omega)) ?_
              rintro x_47 - g26
              try simp (disch := omega) only [w32_of, w64_of, w8_of] at g26
              refine wp_ck (by (try dsimp only) <;> first | assumption | omega | ((try simp (disch := omega) only [w32_of, w64_of, w8_of]) <;> first | assumption | omega | (split <;> omega) | (refine And.intro ?_ ?_ <;> split <;> omega)) | omega) ?_
              refine wp_rdI (by (try dsimp only) <;> first | assumption | omega | ((try simp (disch := omega) only [w32_of, w64_of, w8_of]) <;> first | assumption | omega | (split <;> omega) | (refine And.intro ?_ ?_ <;> split <;> omega)) | omega) (by (try dsimp only) <;> first | assumption | omega | ((try simp (disch := omega) only [w32_of, w64_of, w8_of]) <;> first | assumption | omega | (split <;> omega) | (refine And.intro ?_ ?_ <;> split <;> omega)) | omega) (fun x_49 e_x_49 => ?_)
              try simp (disch := omega) only [w32_of, w64_of, w8_of] at e_x_49
              have c27 := w32_rng x_49
              have c28 := q_lan_bd (w32 x_49) (m := 4294967295) (by decide) (by decide)
              try simp (disch := omega) only [w32_of, w64_of, w8_of] at c28
              refine wp_lt (fun x_51 e_x_51 => ?_)
              try simp (disch := omega) only [w32_of, w64_of, w8_of] at e_x_51
              refine wp_ck (by (try dsimp only) <;> first | assumption | omega | ((try simp (disch := omega) only [w32_of, w64_of, w8_of]) <;> first | assumption | omega | (split <;> omega) | (refine And.intro ?_ ?_ <;> split <;> omega)) | omega) ?_
              refine wp_waN hσ_26 (bI_limb (by (try dsimp only) <;> first | assumption | omega | ((try simp (disch := omega) only [w32_of, w64_of, w8_of]) <;> first | assumption | omega | (split <;> omega) | (refine And.intro ?_ ?_ <;> split <;> omega)) | omega)) (by (try dsimp only) <;> first | assumption | omega | ((try simp (disch := omega) only [w32_of, w64_of, w8_of]) <;> first | assumption | omega | (split <;> omega) | (refine And.intro ?_ ?_ <;> split <;> omega)) | omega) (by (try dsimp only) <;> first | assumption | omega | ((try simp (disch := omega) only [w32_of, w64_of, w8_of]) <;> first | assumption | omega | (split <;> omega) | (refine And.intro ?_ ?_ <;> split <;> omega)) | omega) (fun σ_53 hσ_53 eσ_53 => ?_)
              try simp (disch := omega) only [w32_of, w64_of, w8_of] at eσ_53
              have flσ_53 := FC_li eσ_53 (by (try dsimp only) <;> first | assumption | omega | ((try simp (disch := omega) only [w32_of, w64_of, w8_of]) <;> first | assumption | omega | (split <;> omega) | (refine And.intro ?_ ?_ <;> split <;> omega)) | omega)
              have frσ_53 : FC [65536, 65792, 66048, 66304, 66560, 66816, 67072, 67328, 67584, 67840, 68096, 68352, 68608, 68864, 69120, 69376, kI_sign, kI_used] [] σ σ_53 := FC_tr frσ_26 flσ_53 (by first | decide | (rcases hE with rfl | rfl | rfl <;> decide)) (by first | decide | (rcases hE with rfl | rfl | rfl <;> decide)) (by simp) (by simp)
              exact wp_some (x_inl ⟨⟨hσ_53, frσ_53, (by (try dsimp only) <;> first | assumption | omega | ((try simp (disch := omega) only [w32_of, w64_of, w8_of]) <;> first | assumption | omega | (split <;> omega) | (refine And.intro ?_ ?_ <;> split <;> omega)) | omega)⟩, (by (try dsimp only) <;> first | assumption | omega | ((try simp (disch := omega) only [w32_of, w64_of, w8_of]) <;> first | assumption | omega | (split <;> omega) | (refine And.intro ?_ ?_ <;> split <;> omega)) | omega)⟩)
            · try simp (disch := omega) only [w32_of, w64_of, w8_of, decide_eq_true_eq, decide_eq_false_iff_not, Bool.not_eq_true] at c23
              exact wp_some (x_inr ⟨hσ_26, frσ_26, (by (try dsimp only) <;> first | assumption | omega | ((try simp (disch := omega) only [w32_of, w64_of, w8_of]) <;> first | assumption | omega | (split <;> omega) | (refine And.intro ?_ ?_ <;> split <;> omega)) | omega)⟩)
          · try simp (disch := omega) only [w32_of, w64_of, w8_of, decide_eq_true_eq, decide_eq_false_iff_not, Bool.not_eq_true] at c20
            exact wp_some (x_inr ⟨hσ_26, frσ_26, (by (try dsimp only) <;> first | assumption | omega | ((try simp (disch := omega) only [w32_of, w64_of, w8_of]) <;> first | assumption | omega | (split <;> omega) | (refine And.intro ?_ ?_ <;> split <;> omega)) | omega)⟩)
        rintro ⟨carry_58, k_59, σ_60⟩ _ y30
        try dsimp only at y30 ⊢
        obtain ⟨hσ_60, frσ_60, g29⟩ := y30
        exact wp_some (x_inl ⟨⟨hσ_60, frσ_60, (by (try dsimp only) <;> first | assumption | omega | ((try simp (disch := omega) only [w32_of, w64_of, w8_of]) <;> first | assumption | omega | (split <;> omega) | (refine And.intro ?_ ?_ <;> split <;> omega)) | omega)⟩, (by (try dsimp only) <;> first | assumption | omega | ((try simp (disch := omega) only [w32_of, w64_of, w8_of]) <;> first | assumption | omega | (split <;> omega) | (refine And.intro ?_ ?_ <;> split <;> omega)) | omega)⟩)
    · try simp (disch := omega) only [w32_of, w64_of, w8_of, decide_eq_true_eq, decide_eq_false_iff_not, Bool.not_eq_true] at c11
      exact wp_some (x_inr ⟨hσ_9, frσ_9, (by (try dsimp only) <;> first | assumption | omega | ((try simp (disch := omega) only [w32_of, w64_of, w8_of]) <;> first | assumption | omega | (split <;> omega) | (refine And.intro ?_ ?_ <;> split <;> omega)) | omega)⟩)
  rintro ⟨i_64, σ_65⟩ _ y32
  try dsimp only at y32 ⊢
  obtain ⟨hσ_65, frσ_65, g31⟩ := y32
  refine wp_waI hσ_65 b_kI_used (by (try dsimp only) <;> first | assumption | omega | ((try simp (disch := omega) only [w32_of, w64_of, w8_of]) <;> first | assumption | omega | (split <;> omega) | (refine And.intro ?_ ?_ <;> split <;> omega)) | omega) (by (try dsimp only) <;> first | assumption | omega | ((try simp (disch := omega) only [w32_of, w64_of, w8_of]) <;> first | assumption | omega | (split <;> omega) | (refine And.intro ?_ ?_ <;> split <;> omega)) | omega) (by (try dsimp only) <;> first | assumption | omega | ((try simp (disch := omega) only [w32_of, w64_of, w8_of]) <;> first | assumption | omega | (split <;> omega) | (refine And.intro ?_ ?_ <;> split <;> omega)) | omega) (fun σ_66 hσ_66 eσ_66 => ?_)
  try simp (disch := omega) only [w32_of, w64_of, w8_of] at eσ_66
  have flσ_66 := FC_sg eσ_66 (by first | decide | (rcases hE with rfl | rfl | rfl <;> decide))
  have frσ_66 : FC [65536, 65792, 66048, 66304, 66560, 66816, 67072, 67328, 67584, 67840, 68096, 68352, 68608, 68864, 69120, 69376, kI_sign, kI_used] [] σ σ_66 := FC_tr frσ_65 flσ_66 (by first | decide | (rcases hE with rfl | rfl | rfl <;> decide)) (by first | decide | (rcases hE with rfl | rfl | rfl <;> decide)) (by simp) (by simp)
  refine wp_rdI (by (try dsimp only) <;> first | assumption | omega | ((try simp (disch := omega) only [w32_of, w64_of, w8_of]) <;> first | assumption | omega | (split <;> omega) | (refine And.intro ?_ ?_ <;> split <;> omega)) | omega) (by (try dsimp only) <;> first | assumption | omega | ((try simp (disch := omega) only [w32_of, w64_of, w8_of]) <;> first | assumption | omega | (split <;> omega) | (refine And.intro ?_ ?_ <;> split <;> omega)) | omega) (fun x_68 e_x_68 => ?_)
  have b_x_68 : (-1) ≤ x_68 ∧ x_68 ≤ 1 := by rw [e_x_68]; exact ii_kI_sign hσ_66 _
  try simp (disch := omega) only [w32_of, w64_of, w8_of] at e_x_68
  have c33 := ii_kI_sign hσ_66 one_0
  have c34 := FC_at flσ_66 (c := kI_sign) (by first | decide | (rcases hE with rfl | rfl | rfl <;> decide)) one_0
  have c35 := ii_kI_sign hσ_65 one_0
  refine wp_rdI (by (try dsimp only) <;> first | assumption | omega | ((try simp (disch := omega) only [w32_of, w64_of, w8_of]) <;> first | assumption | omega | (split <;> omega) | (refine And.intro ?_ ?_ <;> split <;> omega)) | omega) (by (try dsimp only) <;> first | assumption | omega | ((try simp (disch := omega) only [w32_of, w64_of, w8_of]) <;> first | assumption | omega | (split <;> omega) | (refine And.intro ?_ ?_ <;> split <;> omega)) | omega) (fun x_70 e_x_70 => ?_)
  have b_x_70 : (-1) ≤ x_70 ∧ x_70 ≤ 1 := by rw [e_x_70]; exact ii_kI_sign hσ_66 _
  try simp (disch := omega) only [w32_of, w64_of, w8_of] at e_x_70
  have c36 := ii_kI_sign hσ_66 two_0
  have c37 := FC_at flσ_66 (c := kI_sign) (by first | decide | (rcases hE with rfl | rfl | rfl <;> decide)) two_0
  have c38 := ii_kI_sign hσ_65 two_0
  have hm1 := sgn3_m (a := x_68) (b := x_70) (by omega) (by omega)
  refine wp_waI hσ_66 b_kI_sign (by (try dsimp only) <;> first | assumption | omega | ((try simp (disch := omega) only [w32_of, w64_of, w8_of]) <;> first | assumption | omega | (split <;> omega) | (refine And.intro ?_ ?_ <;> split <;> omega)) | omega) (by (try dsimp only) <;> first | assumption | omega | ((try simp (disch := omega) only [w32_of, w64_of, w8_of]) <;> first | assumption | omega | (split <;> omega) | (refine And.intro ?_ ?_ <;> split <;> omega)) | omega) (by (try dsimp only) <;> first | assumption | omega | ((try simp (disch := omega) only [w32_of, w64_of, w8_of]) <;> first | assumption | omega | (split <;> omega) | (refine And.intro ?_ ?_ <;> split <;> omega)) | omega) (fun σ_72 hσ_72 eσ_72 => ?_)
  try simp (disch := omega) only [w32_of, w64_of, w8_of] at eσ_72
  have flσ_72 := FC_sg eσ_72 (by first | decide | (rcases hE with rfl | rfl | rfl <;> decide))
  have frσ_72 : FC [65536, 65792, 66048, 66304, 66560, 66816, 67072, 67328, 67584, 67840, 68096, 68352, 68608, 68864, 69120, 69376, kI_sign, kI_used] [] σ σ_72 := FC_tr frσ_66 flσ_72 (by first | decide | (rcases hE with rfl | rfl | rfl <;> decide)) (by first | decide | (rcases hE with rfl | rfl | rfl <;> decide)) (by simp) (by simp)
  refine wp_bd (s_I_trim (σ := σ_72) (register_0 := to_0) hσ_72 (by (try dsimp only) <;> first | assumption | omega | ((try simp (disch := omega) only [w32_of, w64_of, w8_of]) <;> first | assumption | omega | (split <;> omega) | (refine And.intro ?_ ?_ <;> split <;> omega)) | omega)) ?_
  rintro σ_75 - ⟨hσ_75, flσ_75⟩
  have frσ_75 : FC [65536, 65792, 66048, 66304, 66560, 66816, 67072, 67328, 67584, 67840, 68096, 68352, 68608, 68864, 69120, 69376, kI_sign, kI_used] [] σ σ_75 := FC_tr frσ_72 flσ_75 (by first | decide | (rcases hE with rfl | rfl | rfl <;> decide)) (by first | decide | (rcases hE with rfl | rfl | rfl <;> decide)) (by simp) (by simp)
  exact wp_some ⟨hσ_75, frσ_75⟩
theorem s_I_sideSign {σ : SG} {i_0 : Int} {j_0 : Int} {k_0 : Int} (hσ : II σ) (w0 : 0 ≤ i_0 ∧ i_0 ≤ 31) (w1 : 0 ≤ j_0 ∧ j_0 ≤ 31) (w2 : 0 ≤ k_0 ∧ k_0 ≤ 31) : wp_ (fI_sideSign σ i_0 j_0 k_0) (fun zz_ => II zz_.2 ∧ FC [65536, 65792, 66048, 66304, 66560, 66816, 67072, 67328, 67584, 67840, 68096, 68352, 68608, 68864, 69120, 69376, kI_sign, kI_used] [] σ zz_.2) := by
  unfold fI_sideSign
  have c1 := w32_rng j_0
  refine wp_rdI (by (try dsimp only) <;> first | assumption | omega | ((try simp (disch := omega) only [w32_of, w64_of, w8_of]) <;> first | assumption | omega | (split <;> omega) | (refine And.intro ?_ ?_ <;> split <;> omega)) | omega) (by (try dsimp only) <;> first | assumption | omega | ((try simp (disch := omega) only [w32_of, w64_of, w8_of]) <;> first | assumption | omega | (split <;> omega) | (refine And.intro ?_ ?_ <;> split <;> omega)) | omega) (fun x_1 e_x_1 => ?_)
  have b_x_1 : (-9223372036854775808) ≤ x_1 ∧ x_1 ≤ 9223372036854775807 := by rw [e_x_1]; exact ii_kI_x hσ _
  try simp (disch := omega) only [w32_of, w64_of, w8_of] at e_x_1
  have c2 := ii_kI_x hσ j_0
  have c3 := w32_rng i_0
  refine wp_rdI (by (try dsimp only) <;> first | assumption | omega | ((try simp (disch := omega) only [w32_of, w64_of, w8_of]) <;> first | assumption | omega | (split <;> omega) | (refine And.intro ?_ ?_ <;> split <;> omega)) | omega) (by (try dsimp only) <;> first | assumption | omega | ((try simp (disch := omega) only [w32_of, w64_of, w8_of]) <;> first | assumption | omega | (split <;> omega) | (refine And.intro ?_ ?_ <;> split <;> omega)) | omega) (fun x_3 e_x_3 => ?_)
  have b_x_3 : (-9223372036854775808) ≤ x_3 ∧ x_3 ≤ 9223372036854775807 := by rw [e_x_3]; exact ii_kI_x hσ _
  try simp (disch := omega) only [w32_of, w64_of, w8_of] at e_x_3
  have c4 := ii_kI_x hσ i_0
  refine wp_bd (s_I_difference (σ := σ) (to_0 := 2) (bits_0 := x_1) (less_0 := x_3) hσ (by (try dsimp only) <;> first | assumption | omega | ((try simp (disch := omega) only [w32_of, w64_of, w8_of]) <;> first | assumption | omega | (split <;> omega) | (refine And.intro ?_ ?_ <;> split <;> omega)) | omega)) ?_
  rintro σ_6 - ⟨hσ_6, flσ_6⟩
  have frσ_6 : FC [65536, 65792, 66048, 66304, 66560, 66816, 67072, 67328, 67584, 67840, 68096, 68352, 68608, 68864, 69120, 69376, kI_sign, kI_used] [] σ σ_6 := FC_le flσ_6 (by first | decide | (rcases hE with rfl | rfl | rfl <;> decide)) (by simp)
  have c5 := w32_rng k_0
  refine wp_rdI (by (try dsimp only) <;> first | assumption | omega | ((try simp (disch := omega) only [w32_of, w64_of, w8_of]) <;> first | assumption | omega | (split <;> omega) | (refine And.intro ?_ ?_ <;> split <;> omega)) | omega) (by (try dsimp only) <;> first | assumption | omega | ((try simp (disch := omega) only [w32_of, w64_of, w8_of]) <;> first | assumption | omega | (split <;> omega) | (refine And.intro ?_ ?_ <;> split <;> omega)) | omega) (fun x_7 e_x_7 => ?_)
  have b_x_7 : (-9223372036854775808) ≤ x_7 ∧ x_7 ≤ 9223372036854775807 := by rw [e_x_7]; exact ii_kI_y hσ_6 _
  rw [FC_at frσ_6 (c := kI_y) (by first | decide | (rcases hE with rfl | rfl | rfl <;> decide))] at e_x_7
  try simp (disch := omega) only [w32_of, w64_of, w8_of] at e_x_7
  have c6 := ii_kI_y hσ_6 k_0
  have c7 := FC_at flσ_6 (c := kI_y) (by first | decide | (rcases hE with rfl | rfl | rfl <;> decide)) k_0
  have c8 := ii_kI_y hσ k_0
  refine wp_rdI (by (try dsimp only) <;> first | assumption | omega | ((try simp (disch := omega) only [w32_of, w64_of, w8_of]) <;> first | assumption | omega | (split <;> omega) | (refine And.intro ?_ ?_ <;> split <;> omega)) | omega) (by (try dsimp only) <;> first | assumption | omega | ((try simp (disch := omega) only [w32_of, w64_of, w8_of]) <;> first | assumption | omega | (split <;> omega) | (refine And.intro ?_ ?_ <;> split <;> omega)) | omega) (fun x_9 e_x_9 => ?_)
  have b_x_9 : (-9223372036854775808) ≤ x_9 ∧ x_9 ≤ 9223372036854775807 := by rw [e_x_9]; exact ii_kI_y hσ_6 _
  rw [FC_at frσ_6 (c := kI_y) (by first | decide | (rcases hE with rfl | rfl | rfl <;> decide))] at e_x_9
  try simp (disch := omega) only [w32_of, w64_of, w8_of] at e_x_9
  have c9 := ii_kI_y hσ_6 i_0
  have c10 := FC_at flσ_6 (c := kI_y) (by first | decide | (rcases hE with rfl | rfl | rfl <;> decide)) i_0
  have c11 := ii_kI_y hσ i_0
  refine wp_bd (s_I_difference (σ := σ_6) (to_0 := 3) (bits_0 := x_7) (less_0 := x_9) hσ_6 (by (try dsimp only) <;> first | assumption | omega | ((try simp (disch := omega) only [w32_of, w64_of, w8_of]) <;> first | assumption | omega | (split <;> omega) | (refine And.intro ?_ ?_ <;> split <;> omega)) | omega)) ?_
  rintro σ_12 - ⟨hσ_12, flσ_12⟩
  have frσ_12 : FC [65536, 65792, 66048, 66304, 66560, 66816, 67072, 67328, 67584, 67840, 68096, 68352, 68608, 68864, 69120, 69376, kI_sign, kI_used] [] σ σ_12 := FC_tr frσ_6 flσ_12 (by first | decide | (rcases hE with rfl | rfl | rfl <;> decide)) (by first | decide | (rcases hE with rfl | rfl | rfl <;> decide)) (by simp) (by simp)
  refine wp_rdI (by (try dsimp only) <;> first | assumption | omega | ((try simp (disch := omega) only [w32_of, w64_of, w8_of]) <;> first | assumption | omega | (split <;> omega) | (refine And.intro ?_ ?_ <;> split <;> omega)) | omega) (by (try dsimp only) <;> first | assumption | omega | ((try simp (disch := omega) only [w32_of, w64_of, w8_of]) <;> first | assumption | omega | (split <;> omega) | (refine And.intro ?_ ?_ <;> split <;> omega)) | omega) (fun x_13 e_x_13 => ?_)
  have b_x_13 : (-9223372036854775808) ≤ x_13 ∧ x_13 ≤ 9223372036854775807 := by rw [e_x_13]; exact ii_kI_y hσ_12 _
  rw [FC_at frσ_12 (c := kI_y) (by first | decide | (rcases hE with rfl | rfl | rfl <;> decide))] at e_x_13
  try simp (disch := omega) only [w32_of, w64_of, w8_of] at e_x_13
  have c12 := ii_kI_y hσ_12 j_0
  have c13 := FC_at flσ_12 (c := kI_y) (by first | decide | (rcases hE with rfl | rfl | rfl <;> decide)) j_0
  have c14 := ii_kI_y hσ_6 j_0
  have c15 := FC_at flσ_6 (c := kI_y) (by first | decide | (rcases hE with rfl | rfl | rfl <;> decide)) j_0
  have c16 := ii_kI_y hσ j_0
  refine wp_rdI (by (try dsimp only) <;> first | assumption | omega | ((try simp (disch := omega) only [w32_of, w64_of, w8_of]) <;> first | assumption | omega | (split <;> omega) | (refine And.intro ?_ ?_ <;> split <;> omega)) | omega) (by (try dsimp only) <;> first | assumption | omega | ((try simp (disch := omega) only [w32_of, w64_of, w8_of]) <;> first | assumption | omega | (split <;> omega) | (refine And.intro ?_ ?_ <;> split <;> omega)) | omega) (fun x_15 e_x_15 => ?_)
  have b_x_15 : (-9223372036854775808) ≤ x_15 ∧ x_15 ≤ 9223372036854775807 := by rw [e_x_15]; exact ii_kI_y hσ_12 _
  rw [FC_at frσ_12 (c := kI_y) (by first | decide | (rcases hE with rfl | rfl | rfl <;> decide))] at e_x_15
  try simp (disch := omega) only [w32_of, w64_of, w8_of] at e_x_15
  have c17 := ii_kI_y hσ_12 i_0
  have c18 := FC_at flσ_12 (c := kI_y) (by first | decide | (rcases hE with rfl | rfl | rfl <;> decide)) i_0
  refine wp_bd (s_I_difference (σ := σ_12) (to_0 := 4) (bits_0 := x_13) (less_0 := x_15) hσ_12 (by (try dsimp only) <;> first | assumption | omega | ((try simp (disch := omega) only [w32_of, w64_of, w8_of]) <;> first | assumption | omega | (split <;> omega) | (refine And.intro ?_ ?_ <;> split <;> omega)) | omega)) ?_
  rintro σ_18 - ⟨hσ_18, flσ_18⟩
  have frσ_18 : FC [65536, 65792, 66048, 66304, 66560, 66816, 67072, 67328, 67584, 67840, 68096, 68352, 68608, 68864, 69120, 69376, kI_sign, kI_used] [] σ σ_18 := FC_tr frσ_12 flσ_18 (by first | decide | (rcases hE with rfl | rfl | rfl <;> decide)) (by first | decide | (rcases hE with rfl | rfl | rfl <;> decide)) (by simp) (by simp)
  refine wp_rdI (by (try dsimp only) <;> first | assumption | omega | ((try simp (disch := omega) only [w32_of, w64_of, w8_of]) <;> first | assumption | omega | (split <;> omega) | (refine And.intro ?_ ?_ <;> split <;> omega)) | omega) (by (try dsimp only) <;> first | assumption | omega | ((try simp (disch := omega) only [w32_of, w64_of, w8_of]) <;> first | assumption | omega | (split <;> omega) | (refine And.intro ?_ ?_ <;> split <;> omega)) | omega) (fun x_19 e_x_19 => ?_)
  have b_x_19 : (-9223372036854775808) ≤ x_19 ∧ x_19 ≤ 9223372036854775807 := by rw [e_x_19]; exact ii_kI_x hσ_18 _
  rw [FC_at frσ_18 (c := kI_x) (by first | decide | (rcases hE with rfl | rfl | rfl <;> decide))] at e_x_19
  try simp (disch := omega) only [w32_of, w64_of, w8_of] at e_x_19
  have c19 := ii_kI_x hσ_18 k_0
  have c20 := FC_at flσ_18 (c := kI_x) (by first | decide | (rcases hE with rfl | rfl | rfl <;> decide)) k_0
  have c21 := ii_kI_x hσ_12 k_0
  have c22 := FC_at flσ_12 (c := kI_x) (by first | decide | (rcases hE with rfl | rfl | rfl <;> decide)) k_0
  have c23 := ii_kI_x hσ_6 k_0
  have c24 := FC_at flσ_6 (c := kI_x) (by first | decide | (rcases hE with rfl | rfl | rfl <;> decide)) k_0
  have c25 := ii_kI_x hσ k_0
  refine wp_rdI (by (try dsimp only) <;> first | assumption | omega | ((try simp (disch := omega) only [w32_of, w64_of, w8_of]) <;> first | assumption | omega | (split <;> omega) | (refine And.intro ?_ ?_ <;> split <;> omega)) | omega) (by (try dsimp only) <;> first | assumption | omega | ((try simp (disch := omega) only [w32_of, w64_of, w8_of]) <;> first | assumption | omega | (split <;> omega) | (refine And.intro ?_ ?_ <;> split <;> omega)) | omega) (fun x_21 e_x_21 => ?_)
  have b_x_21 : (-9223372036854775808) ≤ x_21 ∧ x_21 ≤ 9223372036854775807 := by rw [e_x_21]; exact ii_kI_x hσ_18 _
  rw [FC_at frσ_18 (c := kI_x) (by first | decide | (rcases hE with rfl | rfl | rfl <;> decide))] at e_x_21
  try simp (disch := omega) only [w32_of, w64_of, w8_of] at e_x_21
  have c26 := ii_kI_x hσ_18 i_0
  have c27 := FC_at flσ_18 (c := kI_x) (by first | decide | (rcases hE with rfl | rfl | rfl <;> decide)) i_0
  have c28 := ii_kI_x hσ_12 i_0
  have c29 := FC_at flσ_12 (c := kI_x) (by first | decide | (rcases hE with rfl | rfl | rfl <;> decide)) i_0
  have c30 := ii_kI_x hσ_6 i_0
  have c31 := FC_at flσ_6 (c := kI_x) (by first | decide | (rcases hE with rfl | rfl | rfl <;> decide)) i_0
  refine wp_bd (s_I_difference (σ := σ_18) (to_0 := 5) (bits_0 := x_19) (less_0 := x_21) hσ_18 (by (try dsimp only) <;> first | assumption | omega | ((try simp (disch := omega) only [w32_of, w64_of, w8_of]) <;> first | assumption | omega | (split <;> omega) | (refine And.intro ?_ ?_ <;> split <;> omega)) | omega)) ?_
  rintro σ_24 - ⟨hσ_24, flσ_24⟩
  have frσ_24 : FC [65536, 65792, 66048, 66304, 66560, 66816, 67072, 67328, 67584, 67840, 68096, 68352, 68608, 68864, 69120, 69376, kI_sign, kI_used] [] σ σ_24 := FC_tr frσ_18 flσ_24 (by first | decide | (rcases hE with rfl | rfl | rfl <;> decide)) (by first | decide | (rcases hE with rfl | rfl | rfl <;> decide)) (by simp) (by simp)
  refine wp_bd (s_I_multiply (σ := σ_24) (to_0 := 6) (one_0 := 2) (two_0 := 3) hσ_24 (by (try dsimp only) <;> first | assumption | omega | ((try simp (disch := omega) only [w32_of, w64_of, w8_of]) <;> first | assumption | omega | (split <;> omega) | (refine And.intro ?_ ?_ <;> split <;> omega)) | omega) (by (try dsimp only) <;> first | assumption | omega | ((try simp (disch := omega) only [w32_of, w64_of, w8_of]) <;> first | assumption | omega | (split <;> omega) | (refine And.intro ?_ ?_ <;> split <;> omega)) | omega) (by (try dsimp only) <;> first | assumption | omega | ((try simp (disch := omega) only [w32_of, w64_of, w8_of]) <;> first | assumption | omega | (split <;> omega) | (refine And.intro ?_ ?_ <;> split <;> omega)) | omega)) ?_
  rintro σ_26 - ⟨hσ_26, flσ_26⟩
  have frσ_26 : FC [65536, 65792, 66048, 66304, 66560, 66816, 67072, 67328, 67584, 67840, 68096, 68352, 68608, 68864, 69120, 69376, kI_sign, kI_used] [] σ σ_26 := FC_tr frσ_24 flσ_26 (by first | decide | (rcases hE with rfl | rfl | rfl <;> decide)) (by first | decide | (rcases hE with rfl | rfl | rfl <;> decide)) (by simp) (by simp)
  refine wp_bd (s_I_multiply (σ := σ_26) (to_0 := 7) (one_0 := 4) (two_0 := 5) hσ_26 (by (try dsimp only) <;> first | assumption | omega | ((try simp (disch := omega) only [w32_of, w64_of, w8_of]) <;> first | assumption | omega | (split <;> omega) | (refine And.intro ?_ ?_ <;> split <;> omega)) | omega) (by (try dsimp only) <;> first | assumption | omega | ((try simp (disch := omega) only [w32_of, w64_of, w8_of]) <;> first | assumption | omega | (split <;> omega) | (refine And.intro ?_ ?_ <;> split <;> omega)) | omega) (by (try dsimp only) <;> first | assumption | omega | ((try simp (disch := omega) only [w32_of, w64_of, w8_of]) <;> first | assumption | omega | (split <;> omega) | (refine And.intro ?_ ?_ <;> split <;> omega)) | omega)) ?_
  rintro σ_28 - ⟨hσ_28, flσ_28⟩
  have frσ_28 : FC [65536, 65792, 66048, 66304, 66560, 66816, 67072, 67328, 67584, 67840, 68096, 68352, 68608, 68864, 69120, 69376, kI_sign, kI_used] [] σ σ_28 := FC_tr frσ_26 flσ_28 (by first | decide | (rcases hE with rfl | rfl | rfl <;> decide)) (by first | decide | (rcases hE with rfl | rfl | rfl <;> decide)) (by simp) (by simp)
  refine wp_bd (s_I_addSigned (σ := σ_28) (to_0 := 8) (one_0 := 6) (two_0 := 7) (factor_0 := (-1)) hσ_28 (by (try dsimp only) <;> first | assumption | omega | ((try simp (disch := omega) only [w32_of, w64_of, w8_of]) <;> first | assumption | omega | (split <;> omega) | (refine And.intro ?_ ?_ <;> split <;> omega)) | omega) (by (try dsimp only) <;> first | assumption | omega | ((try simp (disch := omega) only [w32_of, w64_of, w8_of]) <;> first | assumption | omega | (split <;> omega) | (refine And.intro ?_ ?_ <;> split <;> omega)) | omega) (by (try dsimp only) <;> first | assumption | omega | ((try simp (disch := omega) only [w32_of, w64_of, w8_of]) <;> first | assumption | omega | (split <;> omega) | (refine And.intro ?_ ?_ <;> split <;> omega)) | omega) (by (try dsimp only) <;> first | assumption | omega | ((try simp (disch := omega) only [w32_of, w64_of, w8_of]) <;> first | assumption | omega | (split <;> omega) | (refine And.intro ?_ ?_ <;> split <;> omega)) | omega)) ?_
  rintro σ_30 - ⟨hσ_30, flσ_30⟩
  have frσ_30 : FC [65536, 65792, 66048, 66304, 66560, 66816, 67072, 67328, 67584, 67840, 68096, 68352, 68608, 68864, 69120, 69376, kI_sign, kI_used] [] σ σ_30 := FC_tr frσ_28 flσ_30 (by first | decide | (rcases hE with rfl | rfl | rfl <;> decide)) (by first | decide | (rcases hE with rfl | rfl | rfl <;> decide)) (by simp) (by simp)
  refine wp_rdI (by (try dsimp only) <;> first | assumption | omega | ((try simp (disch := omega) only [w32_of, w64_of, w8_of]) <;> first | assumption | omega | (split <;> omega) | (refine And.intro ?_ ?_ <;> split <;> omega)) | omega) (by (try dsimp only) <;> first | assumption | omega | ((try simp (disch := omega) only [w32_of, w64_of, w8_of]) <;> first | assumption | omega | (split <;> omega) | (refine And.intro ?_ ?_ <;> split <;> omega)) | omega) (fun x_31 e_x_31 => ?_)
  have b_x_31 : (-1) ≤ x_31 ∧ x_31 ≤ 1 := by rw [e_x_31]; exact ii_kI_sign hσ_30 _
  try simp (disch := omega) only [w32_of, w64_of, w8_of] at e_x_31
  have c32 := ii_kI_sign hσ_30 8
  exact wp_some ⟨hσ_30, frσ_30⟩
theorem s_I_putTerm {σ : SG} {to_0 : Int} {one_0 : Int} {two_0 : Int} {three_0 : Int} (hσ : II σ) (w0 : 0 ≤ to_0 ∧ to_0 ≤ 15) (w1 : 0 ≤ one_0 ∧ one_0 ≤ 14) (w2 : 0 ≤ two_0 ∧ two_0 ≤ 14) (w3 : 0 ≤ three_0 ∧ three_0 ≤ 14) : wp_ (fI_putTerm σ to_0 one_0 two_0 three_0) (fun zz_ => II zz_ ∧ FC [65536, 65792, 66048, 66304, 66560, 66816, 67072, 67328, 67584, 67840, 68096, 68352, 68608, 68864, 69120, 69376, kI_sign, kI_used] [] σ zz_) := by
  unfold fI_putTerm
  refine wp_bd (s_I_multiply (σ := σ) (to_0 := 13) (one_0 := one_0) (two_0 := one_0) hσ (by (try dsimp only) <;> first | assumption | omega | ((try simp (disch := omega) only [w32_of, w64_of, w8_of]) <;> first | assumption | omega | (split <;> omega) | (refine And.intro ?_ ?_ <;> split <;> omega)) | omega) (by (try dsimp only) <;> first | assumption | omega | ((try simp (disch := omega) only [w32_of, w64_of, w8_of]) <;> first | assumption | omega | (split <;> omega) | (refine And.intro ?_ ?_ <;> split <;> omega)) | omega) (by (try dsimp only) <;> first | assumption | omega | ((try simp (disch := omega) only [w32_of, w64_of, w8_of]) <;> first | assumption | omega | (split <;> omega) | (refine And.intro ?_ ?_ <;> split <;> omega)) | omega)) ?_
  rintro σ_2 - ⟨hσ_2, flσ_2⟩
  have frσ_2 : FC [65536, 65792, 66048, 66304, 66560, 66816, 67072, 67328, 67584, 67840, 68096, 68352, 68608, 68864, 69120, 69376, kI_sign, kI_used] [] σ σ_2 := FC_le flσ_2 (by first | decide | (rcases hE with rfl | rfl | rfl <;> decide)) (by simp)
  refine wp_bd (s_I_multiply (σ := σ_2) (to_0 := 14) (one_0 := (one_0 + 1)) (two_0 := (one_0 + 1)) hσ_2 (by (try dsimp only) <;> first | assumption | omega | ((try simp (disch := omega) only [w32_of, w64_of, w8_of]) <;> first | assumption | omega | (split <;> omega) | (refine And.intro ?_ ?_ <;> split <;> omega)) | omega) (by (try dsimp only) <;> first | assumption | omega | ((try simp (disch := omega) only [w32_of, w64_of, w8_of]) <;> first | assumption | omega | (split <;> omega) | (refine And.intro ?_ ?_ <;> split <;> omega)) | omega) (by (try dsimp only) <;> first | assumption | omega | ((try simp (disch := omega) only [w32_of, w64_of, w8_of]) <;> first | assumption | omega | (split <;> omega) | (refine And.intro ?_ ?_ <;> split <;> omega)) | omega)) ?_
  rintro σ_4 - ⟨hσ_4, flσ_4⟩
  have frσ_4 : FC [65536, 65792, 66048, 66304, 66560, 66816, 67072, 67328, 67584, 67840, 68096, 68352, 68608, 68864, 69120, 69376, kI_sign, kI_used] [] σ σ_4 := FC_tr frσ_2 flσ_4 (by first | decide | (rcases hE with rfl | rfl | rfl <;> decide)) (by first | decide | (rcases hE with rfl | rfl | rfl <;> decide)) (by simp) (by simp)
  refine wp_bd (s_I_addSigned (σ := σ_4) (to_0 := 15) (one_0 := 13) (two_0 := 14) (factor_0 := 1) hσ_4 (by (try dsimp only) <;> first | assumption | omega | ((try simp (disch := omega) only [w32_of, w64_of, w8_of]) <;> first | assumption | omega | (split <;> omega) | (refine And.intro ?_ ?_ <;> split <;> omega)) | omega) (by (try dsimp only) <;> first | assumption | omega | ((try simp (disch := omega) only [w32_of, w64_of, w8_of]) <;> first | assumption | omega | (split <;> omega) | (refine And.intro ?_ ?_ <;> split <;> omega)) | omega) (by (try dsimp only) <;> first | assumption | omega | ((try simp (disch := omega) only [w32_of, w64_of, w8_of]) <;> first | assumption | omega | (split <;> omega) | (refine And.intro ?_ ?_ <;> split <;> omega)) | omega) (by (try dsimp only) <;> first | assumption | omega | ((try simp (disch := omega) only [w32_of, w64_of, w8_of]) <;> first | assumption | omega | (split <;> omega) | (refine And.intro ?_ ?_ <;> split <;> omega)) | omega)) ?_
  rintro σ_6 - ⟨hσ_6, flσ_6⟩
  have frσ_6 : FC [65536, 65792, 66048, 66304, 66560, 66816, 67072, 67328, 67584, 67840, 68096, 68352, 68608, 68864, 69120, 69376, kI_sign, kI_used] [] σ σ_6 := FC_tr frσ_4 flσ_6 (by first | decide | (rcases hE with rfl | rfl | rfl <;> decide)) (by first | decide | (rcases hE with rfl | rfl | rfl <;> decide)) (by simp) (by simp)
  refine wp_bd (s_I_multiply (σ := σ_6) (to_0 := 13) (one_0 := two_0) (two_0 := (three_0 + 1)) hσ_6 (by (try dsimp only) <;> first | assumption | omega | ((try simp (disch := omega) only [w32_of, w64_of, w8_of]) <;> first | assumption | omega | (split <;> omega) | (refine And.intro ?_ ?_ <;> split <;> omega)) | omega) (by (try dsimp only) <;> first | assumption | omega | ((try simp (disch := omega) only [w32_of, w64_of, w8_of]) <;> first | assumption | omega | (split <;> omega) | (refine And.intro ?_ ?_ <;> split <;> omega)) | omega) (by (try dsimp only) <;> first | assumption | omega | ((try simp (disch := omega) only [w32_of, w64_of, w8_of]) <;> first | assumption | omega | (split <;> omega) | (refine And.intro ?_ ?_ <;> split <;> omega)) | omega)) ?_
  rintro σ_8 - ⟨hσ_8, flσ_8⟩
  have frσ_8 : FC [65536, 65792, 66048, 66304, 66560, 66816, 67072, 67328, 67584, 67840, 68096, 68352, 68608, 68864, 69120, 69376, kI_sign, kI_used] [] σ σ_8 := FC_tr frσ_6 flσ_8 (by first | decide | (rcases hE with rfl | rfl | rfl <;> decide)) (by first | decide | (rcases hE with rfl | rfl | rfl <;> decide)) (by simp) (by simp)
  refine wp_bd (s_I_multiply (σ := σ_8) (to_0 := 14) (one_0 := (two_0 + 1)) (two_0 := three_0) hσ_8 (by (try dsimp only) <;> first | assumption | omega | ((try simp (disch := omega) only [w32_of, w64_of, w8_of]) <;> first | assumption | omega | (split <;> omega) | (refine And.intro ?_ ?_ <;> split <;> omega)) | omega) (by (try dsimp only) <;> first | assumption | omega | ((try simp (disch := omega) only [w32_of, w64_of, w8_of]) <;> first | assumption | omega | (split <;> omega) | (refine And.intro ?_ ?_ <;> split <;> omega)) | omega) (by (try dsimp only) <;> first | assumption | omega | ((try simp (disch := omega) only [w32_of, w64_of, w8_of]) <;> first | assumption | omega | (split <;> omega) | (refine And.intro ?_ ?_ <;> split <;> omega)) | omega)) ?_
  rintro σ_10 - ⟨hσ_10, flσ_10⟩
  have frσ_10 : FC [65536, 65792, 66048, 66304, 66560, 66816, 67072, 67328, 67584, 67840, 68096, 68352, 68608, 68864, 69120, 69376, kI_sign, kI_used] [] σ σ_10 := FC_tr frσ_8 flσ_10 (by first | decide | (rcases hE with rfl | rfl | rfl <;> decide)) (by first | decide | (rcases hE with rfl | rfl | rfl <;> decide)) (by simp) (by simp)
  refine wp_bd (s_I_addSigned (σ := σ_10) (to_0 := 0) (one_0 := 13) (two_0 := 14) (factor_0 := (-1)) hσ_10 (by (try dsimp only) <;> first | assumption | omega | ((try simp (disch := omega) only [w32_of, w64_of, w8_of]) <;> first | assumption | omega | (split <;> omega) | (refine And.intro ?_ ?_ <;> split <;> omega)) | omega) (by (try dsimp only) <;> first | assumption | omega | ((try simp (disch := omega) only [w32_of, w64_of, w8_of]) <;> first | assumption | omega | (split <;> omega) | (refine And.intro ?_ ?_ <;> split <;> omega)) | omega) (by (try dsimp only) <;> first | assumption | omega | ((try simp (disch := omega) only [w32_of, w64_of, w8_of]) <;> first | assumption | omega | (split <;> omega) | (refine And.intro ?_ ?_ <;> split <;> omega)) | omega) (by (try dsimp only) <;> first | assumption | omega | ((try simp (disch := omega) only [w32_of, w64_of, w8_of]) <;> first | assumption | omega | (split <;> omega) | (refine And.intro ?_ ?_ <;> split <;> omega)) | omega)) ?_
  rintro σ_12 - ⟨hσ_12, flσ_12⟩
  have frσ_12 : FC [65536, 65792, 66048, 66304, 66560, 66816, 67072, 67328, 67584, 67840, 68096, 68352, 68608, 68864, 69120, 69376, kI_sign, kI_used] [] σ σ_12 := FC_tr frσ_10 flσ_12 (by first | decide | (rcases hE with rfl | rfl | rfl <;> decide)) (by first | decide | (rcases hE with rfl | rfl | rfl <;> decide)) (by simp) (by simp)
  refine wp_bd (s_I_multiply (σ := σ_12) (to_0 := to_0) (one_0 := 15) (two_0 := 0) hσ_12 (by (try dsimp only) <;> first | assumption | omega | ((try simp (disch := omega) only [w32_of, w64_of, w8_of]) <;> first | assumption | omega | (split <;> omega) | (refine And.intro ?_ ?_ <;> split <;> omega)) | omega) (by (try dsimp only) <;> first | assumption | omega | ((try simp (disch := omega) only [w32_of, w64_of, w8_of]) <;> first | assumption | omega | (split <;> omega) | (refine And.intro ?_ ?_ <;> split <;> omega)) | omega) (by (try dsimp only) <;> first | assumption | omega | ((try simp (disch := omega) only [w32_of, w64_of, w8_of]) <;> first | assumption | omega | (split <;> omega) | (refine And.intro ?_ ?_ <;> split <;> omega)) | omega)) ?_
  rintro σ_14 - ⟨hσ_14, flσ_14⟩
  have frσ_14 : FC [65536, 65792, 66048, 66304, 66560, 66816, 67072, 67328, 67584, 67840, 68096, 68352, 68608, 68864, 69120, 69376, kI_sign, kI_used] [] σ σ_14 := FC_tr frσ_12 flσ_14 (by first | decide | (rcases hE with rfl | rfl | rfl <;> decide)) (by first | decide | (rcases hE with rfl | rfl | rfl <;> decide)) (by simp) (by simp)
  exact wp_some ⟨hσ_14, frσ_14⟩
theorem s_I_circleSign {σ : SG} {i_0 : Int} {j_0 : Int} {k_0 : Int} {l_0 : Int} (hσ : II σ) (w0 : 0 ≤ i_0 ∧ i_0 ≤ 31) (w1 : 0 ≤ j_0 ∧ j_0 ≤ 31) (w2 : 0 ≤ k_0 ∧ k_0 ≤ 31) (w3 : 0 ≤ l_0 ∧ l_0 ≤ 31) : wp_ (fI_circleSign σ i_0 j_0 k_0 l_0) (fun zz_ => II zz_.2 ∧ FC [65536, 65792, 66048, 66304, 66560, 66816, 67072, 67328, 67584, 67840, 68096, 68352, 68608, 68864, 69120, 69376, kI_sign, kI_used] [] σ zz_.2) := by
  unfold fI_circleSign
  have c1 := w32_rng i_0
  refine wp_rdI (by (try dsimp only) <;> first | assumption | omega | ((try simp (disch := omega) only [w32_of, w64_of, w8_of]) <;> first | assumption | omega | (split <;> omega) | (refine And.intro ?_ ?_ <;> split <;> omega)) | omega) (by (try dsimp only) <;> first | assumption | omega | ((try simp (disch := omega) only [w32_of, w64_of, w8_of]) <;> first | assumption | omega | (split <;> omega) | (refine And.intro ?_ ?_ <;> split <;> omega)) | omega) (fun x_1 e_x_1 => ?_)
  have b_x_1 : (-9223372036854775808) ≤ x_1 ∧ x_1 ≤ 9223372036854775807 := by rw [e_x_1]; exact ii_kI_x hσ _
  try simp (disch := omega) only [w32_of, w64_of, w8_of] at e_x_1
  have c2 := ii_kI_x hσ i_0
  have c3 := w32_rng l_0
  refine wp_rdI (by (try dsimp only) <;> first | assumption | omega | ((try simp (disch := omega) only [w32_of, w64_of, w8_of]) <;> first | assumption | omega | (split <;> omega) | (refine And.intro ?_ ?_ <;> split <;> omega)) | omega) (by (try dsimp only) <;> first | assumption | omega | ((try simp (disch := omega) only [w32_of, w64_of, w8_of]) <;> first | assumption | omega | (split <;> omega) | (refine And.intro ?_ ?_ <;> split <;> omega)) | omega) (fun x_3 e_x_3 => ?_)
  have b_x_3 : (-9223372036854775808) ≤ x_3 ∧ x_3 ≤ 9223372036854775807 := by rw [e_x_3]; exact ii_kI_x hσ _
  try simp (disch := omega) only [w32_of, w64_of, w8_of] at e_x_3
  have c4 := ii_kI_x hσ l_0
  refine wp_bd (s_I_difference (σ := σ) (to_0 := 2) (bits_0 := x_1) (less_0 := x_3) hσ (by (try dsimp only) <;> first | assumption | omega | ((try simp (disch := omega) only [w32_of, w64_of, w8_of]) <;> first | assumption | omega | (split <;> omega) | (refine And.intro ?_ ?_ <;> split <;> omega)) | omega)) ?_
  rintro σ_6 - ⟨hσ_6, flσ_6⟩
  have frσ_6 : FC [65536, 65792, 66048, 66304, 66560, 66816, 67072, 67328, 67584, 67840, 68096, 68352, 68608, 68864, 69120, 69376, kI_sign, kI_used] [] σ σ_6 := FC_le flσ_6 (by first | decide | (rcases hE with rfl | rfl | rfl <;> decide)) (by simp)
  refine wp_rdI (by (try dsimp only) <;> first | assumption | omega | ((try simp (disch := omega) only [w32_of, w64_of, w8_of]) <;> first | assumption | omega | (split <;> omega) | (refine And.intro ?_ ?_ <;> split <;> omega)) | omega) (by (try dsimp only) <;> first | assumption | omega | ((try simp (disch := omega) only [w32_of, w64_of, w8_of]) <;> first | assumption | omega | (split <;> omega) | (refine And.intro ?_ ?_ <;> split <;> omega)) | omega) (fun x_7 e_x_7 => ?_)
  have b_x_7 : (-9223372036854775808) ≤ x_7 ∧ x_7 ≤ 9223372036854775807 := by rw [e_x_7]; exact ii_kI_y hσ_6 _
  rw [FC_at frσ_6 (c := kI_y) (by first | decide | (rcases hE with rfl | rfl | rfl <;> decide))] at e_x_7
  try simp (disch := omega) only [w32_of, w64_of, w8_of] at e_x_7
  have c5 := ii_kI_y hσ_6 i_0
  have c6 := FC_at flσ_6 (c := kI_y) (by first | decide | (rcases hE with rfl | rfl | rfl <;> decide)) i_0
  have c7 := ii_kI_y hσ i_0
  refine wp_rdI (by (try dsimp only) <;> first | assumption | omega | ((try simp (disch := omega) only [w32_of, w64_of, w8_of]) <;> first | assumption | omega | (split <;> omega) | (refine And.intro ?_ ?_ <;> split <;> omega)) | omega) (by (try dsimp only) <;> first | assumption | omega | ((try simp (disch := omega) only [w32_of, w64_of, w8_of]) <;> first | assumption | omega | (split <;> omega) | (refine And.intro ?_ ?_ <;> split <;> omega)) | omega) (fun x_9 e_x_9 => ?_)
  have b_x_9 : (-9223372036854775808) ≤ x_9 ∧ x_9 ≤ 9223372036854775807 := by rw [e_x_9]; exact ii_kI_y hσ_6 _
  rw [FC_at frσ_6 (c := kI_y) (by first | decide | (rcases hE with rfl | rfl | rfl <;> decide))] at e_x_9
  try simp (disch := omega) only [w32_of, w64_of, w8_of] at e_x_9
  have c8 := ii_kI_y hσ_6 l_0
  have c9 := FC_at flσ_6 (c := kI_y) (by first | decide | (rcases hE with rfl | rfl | rfl <;> decide)) l_0
  have c10 := ii_kI_y hσ l_0
  refine wp_bd (s_I_difference (σ := σ_6) (to_0 := 3) (bits_0 := x_7) (less_0 := x_9) hσ_6 (by (try dsimp only) <;> first | assumption | omega | ((try simp (disch := omega) only [w32_of, w64_of, w8_of]) <;> first | assumption | omega | (split <;> omega) | (refine And.intro ?_ ?_ <;> split <;> omega)) | omega)) ?_
  rintro σ_12 - ⟨hσ_12, flσ_12⟩
  have frσ_12 : FC [65536, 65792, 66048, 66304, 66560, 66816, 67072, 67328, 67584, 67840, 68096, 68352, 68608, 68864, 69120, 69376, kI_sign, kI_used] [] σ σ_12 := FC_tr frσ_6 flσ_12 (by first | decide | (rcases hE with rfl | rfl | rfl <;> decide)) (by first | decide | (rcases hE with rfl | rfl | rfl <;> decide)) (by simp) (by simp)
  have c11 := w32_rng j_0
  refine wp_rdI (by (try dsimp only) <;> first | assumption | omega | ((try simp (disch := omega) only [w32_of, w64_of, w8_of]) <;> first | assumption | omega | (split <;> omega) | (refine And.intro ?_ ?_ <;> split <;> omega)) | omega) (by (try dsimp only) <;> first | assumption | omega | ((try simp (disch := omega) only [w32_of, w64_of, w8_of]) <;> first | assumption | omega | (split <;> omega) | (refine And.intro ?_ ?_ <;> split <;> omega)) | omega) (fun x_13 e_x_13 => ?_)
  have b_x_13 : (-9223372036854775808) ≤ x_13 ∧ x_13 ≤ 9223372036854775807 := by rw [e_x_13]; exact ii_kI_x hσ_12 _
  rw [FC_at frσ_12 (c := kI_x) (by first | decide | (rcases hE with rfl | rfl | rfl <;> decide))] at e_x_13
  try simp (disch := omega) only [w32_of, w64_of, w8_of] at e_x_13
  have c12 := ii_kI_x hσ_12 j_0
  have c13 := FC_at flσ_12 (c := kI_x) (by first | decide | (rcases hE with rfl | rfl | rfl <;> decide)) j_0
  have c14 := ii_kI_x hσ_6 j_0
  have c15 := FC_at flσ_6 (c := kI_x) (by first | decide | (rcases hE with rfl | rfl | rfl <;> decide)) j_0
  have c16 := ii_kI_x hσ j_0
  refine wp_rdI (by (try dsimp only) <;> first | assumption | omega | ((try simp (disch := omega) only [w32_of, w64_of, w8_of]) <;> first | assumption | omega | (split <;> omega) | (refine And.intro ?_ ?_ <;> split <;> omega)) | omega) (by (try dsimp only) <;> first | assumption | omega | ((try simp (disch := omega) only [w32_of, w64_of, w8_of]) <;> first | assumption | omega | (split <;> omega) | (refine And.intro ?_ ?_ <;> split <;> omega)) | omega) (fun x_15 e_x_15 => ?_)
  have b_x_15 : (-9223372036854775808) ≤ x_15 ∧ x_15 ≤ 9223372036854775807 := by rw [e_x_15]; exact ii_kI_x hσ_12 _
  rw [FC_at frσ_12 (c := kI_x) (by first | decide | (rcases hE with rfl | rfl | rfl <;> decide))] at e_x_15
  try simp (disch := omega) only [w32_of, w64_of, w8_of] at e_x_15
  have c17 := ii_kI_x hσ_12 l_0
  have c18 := FC_at flσ_12 (c := kI_x) (by first | decide | (rcases hE with rfl | rfl | rfl <;> decide)) l_0
  have c19 := ii_kI_x hσ_6 l_0
  have c20 := FC_at flσ_6 (c := kI_x) (by first | decide | (rcases hE with rfl | rfl | rfl <;> decide)) l_0
  refine wp_bd (s_I_difference (σ := σ_12) (to_0 := 4) (bits_0 := x_13) (less_0 := x_15) hσ_12 (by (try dsimp only) <;> first | assumption | omega | ((try simp (disch := omega) only [w32_of, w64_of, w8_of]) <;> first | assumption | omega | (split <;> omega) | (refine And.intro ?_ ?_ <;> split <;> omega)) | omega)) ?_
  rintro σ_18 - ⟨hσ_18, flσ_18⟩
  have frσ_18 : FC [65536, 65792, 66048, 66304, 66560, 66816, 67072, 67328, 67584, 67840, 68096, 68352, 68608, 68864, 69120, 69376, kI_sign, kI_used] [] σ σ_18 := FC_tr frσ_12 flσ_18 (by first | decide | (rcases hE with rfl | rfl | rfl <;> decide)) (by first | decide | (rcases hE with rfl | rfl | rfl <;> decide)) (by simp) (by simp)
  refine wp_rdI (by (try dsimp only) <;> first | assumption | omega | ((try simp (disch := omega) only [w32_of, w64_of, w8_of]) <;> first | assumption | omega | (split <;> omega) | (refine And.intro ?_ ?_ <;> split <;> omega)) | omega) (by (try dsimp only) <;> first | assumption | omega | ((try simp (disch := omega) only [w32_of, w64_of, w8_of]) <;> first | assumption | omega | (split <;> omega) | (refine And.intro ?_ ?_ <;> split <;> omega)) | omega) (fun x_19 e_x_19 => ?_)
  have b_x_19 : (-9223372036854775808) ≤ x_19 ∧ x_19 ≤ 9223372036854775807 := by rw [e_x_19]; exact ii_kI_y hσ_18 _
  rw [FC_at frσ_18 (c := kI_y) (by first | decide | (rcases hE with rfl | rfl | rfl <;> decide))] at e_x_19
  try simp (disch := omega) only [w32_of, w64_of, w8_of] at e_x_19
  have c21 := ii_kI_y hσ_18 j_0
  have c22 := FC_at flσ_18 (c := kI_y) (by first | decide | (rcases hE with rfl | rfl | rfl <;> decide)) j_0
  have c23 := ii_kI_y hσ_12 j_0
  have c24 := FC_at flσ_12 (c := kI_y) (by first | decide | (rcases hE with rfl | rfl | rfl <;> decide)) j_0
  have c25 := ii_kI_y hσ_6 j_0
  have c26 := FC_at flσ_6 (c := kI_y) (by first | decide | (rcases hE with rfl | rfl | rfl <;> decide)) j_0
  have c27 := ii_kI_y hσ j_0
  refine wp_rdI (by (try dsimp only) <;> first | assumption | omega | ((try simp (disch := omega) only [w32_of, w64_of, w8_of]) <;> first | assumption | omega | (split <;> omega) | (refine And.intro ?_ ?_ <;> split <;> omega)) | omega) (by (try dsimp only) <;> first | assumption | omega | ((try simp (disch := omega) only [w32_of, w64_of, w8_of]) <;> first | assumption | omega | (split <;> omega) | (refine And.intro ?_ ?_ <;> split <;> omega)) | omega) (fun x_21 e_x_21 => ?_)
  have b_x_21 : (-9223372036854775808) ≤ x_21 ∧ x_21 ≤ 9223372036854775807 := by rw [e_x_21]; exact ii_kI_y hσ_18 _
  rw [FC_at frσ_18 (c := kI_y) (by first | decide | (rcases hE with rfl | rfl | rfl <;> decide))] at e_x_21
  try simp (disch := omega) only [w32_of, w64_of, w8_of] at e_x_21
  have c28 := ii_kI_y hσ_18 l_0
  have c29 := FC_at flσ_18 (c := kI_y) (by first | decide | (rcases hE with rfl | rfl | rfl <;> decide)) l_0
  have c30 := ii_kI_y hσ_12 l_0
  have c31 := FC_at flσ_12 (c := kI_y) (by first | decide | (rcases hE with rfl | rfl | rfl <;> decide)) l_0
  refine wp_bd (s_I_difference (σ := σ_18) (to_0 := 5) (bits_0 := x_19) (less_0 := x_21) hσ_18 (by (try dsimp only) <;> first | assumption | omega | ((try simp (disch := omega) only [w32_of, w64_of, w8_of]) <;> first | assumption | omega | (split <;> omega) | (refine And.intro ?_ ?_ <;> split <;> omega)) | omega)) ?_
  rintro σ_24 - ⟨hσ_24, flσ_24⟩
  have frσ_24 : FC [65536, 65792, 66048, 66304, 66560, 66816, 67072, 67328, 67584, 67840, 68096, 68352, 68608, 68864, 69120, 69376, kI_sign, kI_used] [] σ σ_24 := FC_tr frσ_18 flσ_24 (by first | decide | (rcases hE with rfl | rfl | rfl <;> decide)) (by first | decide | (rcases hE with rfl | rfl | rfl <;> decide)) (by simp) (by simp)
  have c32 := w32_rng k_0
  refine wp_rdI (by (try dsimp only) <;> first | assumption | omega | ((try simp (disch := omega) only [w32_of, w64_of, w8_of]) <;> first | assumption | omega | (split <;> omega) | (refine And.intro ?_ ?_ <;> split <;> omega)) | omega) (by (try dsimp only) <;> first | assumption | omega | ((try simp (disch := omega) only [w32_of, w64_of, w8_of]) <;> first | assumption | omega | (split <;> omega) | (refine And.intro ?_ ?_ <;> split <;> omega)) | omega) (fun x_25 e_x_25 => ?_)
  have b_x_25 : (-9223372036854775808) ≤ x_25 ∧ x_25 ≤ 9223372036854775807 := by rw [e_x_25]; exact ii_kI_x hσ_24 _
  rw [FC_at frσ_24 (c := kI_x) (by first | decide | (rcases hE with rfl | rfl | rfl <;> decide))] at e_x_25
  try simp (disch := omega) only [w32_of, w64_of, w8_of] at e_x_25
  have c33 := ii_kI_x hσ_24 k_0
  have c34 := FC_at flσ_24 (c := kI_x) (by first | decide | (rcases hE with rfl | rfl | rfl <;> decide)) k_0
  have c35 := ii_kI_x hσ_18 k_0
  have c36 := FC_at flσ_18 (c := kI_x) (by first | decide | (rcases hE with rfl | rfl | rfl <;> decide)) k_0
  have c37 := ii_kI_x hσ_12 k_0
  have c38 := FC_at flσ_12 (c := kI_x) (by first | decide | (rcases hE with rfl | rfl | rfl <;> decide)) k_0
  have c39 := ii_kI_x hσ_6 k_0
  have c40 := FC_at flσ_6 (c := kI_x) (by first | decide | (rcases hE with rfl | rfl | rfl <;> decide)) k_0
  have c41 := ii_kI_x hσ k_0
  refine wp_rdI (by (try dsimp only) <;> first | assumption | omega | ((try simp (disch := omega) only [w32_of, w64_of, w8_of]) <;> first | assumption | omega | (split <;> omega) | (refine And.intro ?_ ?_ <;> split <;> omega)) | omega) (by (try dsimp only) <;> first | assumption | omega | ((try simp (disch := omega) only [w32_of, w64_of, w8_of]) <;> first | assumption | omega | (split <;> omega) | (refine And.intro ?_ ?_ <;> split <;> omega)) | omega) (fun x_27 e_x_27 => ?_)
  have b_x_27 : (-9223372036854775808) ≤ x_27 ∧ x_27 ≤ 9223372036854775807 := by rw [e_x_27]; exact ii_kI_x hσ_24 _
  rw [FC_at frσ_24 (c := kI_x) (by first | decide | (rcases hE with rfl | rfl | rfl <;> decide))] at e_x_27
  try simp (disch := omega) only [w32_of, w64_of, w8_of] at e_x_27
  have c42 := ii_kI_x hσ_24 l_0
  have c43 := FC_at flσ_24 (c := kI_x) (by first | decide | (rcases hE with rfl | rfl | rfl <;> decide)) l_0
  have c44 := ii_kI_x hσ_18 l_0
  have c45 := FC_at flσ_18 (c := kI_x) (by first | decide | (rcases hE with rfl | rfl | rfl <;> decide)) l_0
  refine wp_bd (s_I_difference (σ := σ_24) (to_0 := 6) (bits_0 := x_25) (less_0 := x_27) hσ_24 (by (try dsimp only) <;> first | assumption | omega | ((try simp (disch := omega) only [w32_of, w64_of, w8_of]) <;> first | assumption | omega | (split <;> omega) | (refine And.intro ?_ ?_ <;> split <;> omega)) | omega)) ?_
  rintro σ_30 - ⟨hσ_30, flσ_30⟩
  have frσ_30 : FC [65536, 65792, 66048, 66304, 66560, 66816, 67072, 67328, 67584, 67840, 68096, 68352, 68608, 68864, 69120, 69376, kI_sign, kI_used] [] σ σ_30 := FC_tr frσ_24 flσ_30 (by first | decide | (rcases hE with rfl | rfl | rfl <;> decide)) (by first | decide | (rcases hE with rfl | rfl | rfl <;> decide)) (by simp) (by simp)
  refine wp_rdI (by (try dsimp only) <;> first | assumption | omega | ((try simp (disch := omega) only [w32_of, w64_of, w8_of]) <;> first | assumption | omega | (split <;> omega) | (refine And.intro ?_ ?_ <;> split <;> omega)) | omega) (by (try dsimp only) <;> first | assumption | omega | ((try simp (disch := omega) only [w32_of, w64_of, w8_of]) <;> first | assumption | omega | (split <;> omega) | (refine And.intro ?_ ?_ <;> split <;> omega)) | omega) (fun x_31 e_x_31 => ?_)
  have b_x_31 : (-9223372036854775808) ≤ x_31 ∧ x_31 ≤ 9223372036854775807 := by rw [e_x_31]; exact ii_kI_y hσ_30 _
  rw [FC_at frσ_30 (c := kI_y) (by first | decide | (rcases hE with rfl | rfl | rfl <;> decide))] at e_x_31
  try simp (disch := omega) only [w32_of, w64_of, w8_of] at e_x_31
  have c46 := ii_kI_y hσ_30 k_0
  have c47 := FC_at flσ_30 (c := kI_y) (by first | decide | (rcases hE with rfl | rfl | rfl <;> decide)) k_0
  have c48 := ii_kI_y hσ_24 k_0
  have c49 := FC_at flσ_24 (c := kI_y) (by first | decide | (rcases hE with rfl | rfl | rfl <;> decide)) k_0
  have c50 := ii_kI_y hσ_18 k_0
  have c51 := FC_at flσ_18 (c := kI_y) (by first | decide | (rcases hE with rfl | rfl | rfl <;> decide)) k_0
  have c52 := ii_kI_y hσ_12 k_0
  have c53 := FC_at flσ_12 (c := kI_y) (by first | decide | (rcases hE with rfl | rfl | rfl <;> decide)) k_0
  have c54 := ii_kI_y hσ_6 k_0
  have c55 := FC_at flσ_6 (c := kI_y) (by first | decide | (rcases hE with rfl | rfl | rfl <;> decide)) k_0
  have c56 := ii_kI_y hσ k_0
  refine wp_rdI (by (try dsimp only) <;> first | assumption | omega | ((try simp (disch := omega) only [w32_of, w64_of, w8_of]) <;> first | assumption | omega | (split <;> omega) | (refine And.intro ?_ ?_ <;> split <;> omega)) | omega) (by (try dsimp only) <;> first | assumption | omega | ((try simp (disch := omega) only [w32_of, w64_of, w8_of]) <;> first | assumption | omega | (split <;> omega) | (refine And.intro ?_ ?_ <;> split <;> omega)) | omega) (fun x_33 e_x_33 => ?_)
  have b_x_33 : (-9223372036854775808) ≤ x_33 ∧ x_33 ≤ 9223372036854775807 := by rw [e_x_33]; exact ii_kI_y hσ_30 _
  rw [FC_at frσ_30 (c := kI_y) (by first | decide | (rcases hE with rfl | rfl | rfl <;> decide))] at e_x_33
  try simp (disch := omega) only [w32_of, w64_of, w8_of] at e_x_33
  have c57 := ii_kI_y hσ_30 l_0
  have c58 := FC_at flσ_30 (c := kI_y) (by first | decide | (rcases hE with rfl | rfl | rfl <;> decide)) l_0
  have c59 := ii_kI_y hσ_24 l_0
  have c60 := FC_at flσ_24 (c := kI_y) (by first | decide | (rcases hE with rfl | rfl | rfl <;> decide)) l_0
  refine wp_bd (s_I_difference (σ := σ_30) (to_0 := 7) (bits_0 := x_31) (less_0 := x_33) hσ_30 (by (try dsimp only) <;> first | assumption | omega | ((try simp (disch := omega) only [w32_of, w64_of, w8_of]) <;> first | assumption | omega | (split <;> omega) | (refine And.intro ?_ ?_ <;> split <;> omega)) | omega)) ?_
  rintro σ_36 - ⟨hσ_36, flσ_36⟩
  have frσ_36 : FC [65536, 65792, 66048, 66304, 66560, 66816, 67072, 67328, 67584, 67840, 68096, 68352, 68608, 68864, 69120, 69376, kI_sign, kI_used] [] σ σ_36 := FC_tr frσ_30 flσ_36 (by first | decide | (rcases hE with rfl | rfl | rfl <;> decide)) (by first | decide | (rcases hE with rfl | rfl | rfl <;> decide)) (by simp) (by simp)
  refine wp_bd (s_I_putTerm (σ := σ_36) (to_0 := 8) (one_0 := 2) (two_0 := 4) (three_0 := 6) hσ_36 (by (try dsimp only) <;> first | assumption | omega | ((try simp (disch := omega) only [w32_of, w64_of, w8_of]) <;> first | assumption | omega | (split <;> omega) | (refine And.intro ?_ ?_ <;> split <;> omega)) | omega) (by (try dsimp only) <;> first | assumption | omega | ((try simp (disch := omega) only [w32_of, w64_of, w8_of]) <;> first | assumption | omega | (split <;> omega) | (refine And.intro ?_ ?_ <;> split <;> omega)) | omega) (by (try dsimp only) <;> first | assumption | omega | ((try simp (disch := omega) only [w32_of, w64_of, w8_of]) <;> first | assumption | omega | (split <;> omega) | (refine And.intro ?_ ?_ <;> split <;> omega)) | omega) (by (try dsimp only) <;> first | assumption | omega | ((try simp (disch := omega) only [w32_of, w64_of, w8_of]) <;> first | assumption | omega | (split <;> omega) | (refine And.intro ?_ ?_ <;> split <;> omega)) | omega)) ?_
  rintro σ_38 - ⟨hσ_38, flσ_38⟩
  have frσ_38 : FC [65536, 65792, 66048, 66304, 66560, 66816, 67072, 67328, 67584, 67840, 68096, 68352, 68608, 68864, 69120, 69376, kI_sign, kI_used] [] σ σ_38 := FC_tr frσ_36 flσ_38 (by first | decide | (rcases hE with rfl | rfl | rfl <;> decide)) (by first | decide | (rcases hE with rfl | rfl | rfl <;> decide)) (by simp) (by simp)
  refine wp_bd (s_I_putTerm (σ := σ_38) (to_0 := 9) (one_0 := 4) (two_0 := 6) (three_0 := 2) hσ_38 (by (try dsimp only) <;> first | assumption | omega | ((try simp (disch := omega) only [w32_of, w64_of, w8_of]) <;> first | assumption | omega | (split <;> omega) | (refine And.intro ?_ ?_ <;> split <;> omega)) | omega) (by (try dsimp only) <;> first | assumption | omega | ((try simp (disch := omega) only [w32_of, w64_of, w8_of]) <;> first | assumption | omega | (split <;> omega) | (refine And.intro ?_ ?_ <;> split <;> omega)) | omega) (by (try dsimp only) <;> first | assumption | omega | ((try simp (disch := omega) only [w32_of, w64_of, w8_of]) <;> first | assumption | omega | (split <;> omega) | (refine And.intro ?_ ?_ <;> split <;> omega)) | omega) (by (try dsimp only) <;> first | assumption | omega | ((try simp (disch := omega) only [w32_of, w64_of, w8_of]) <;> first | assumption | omega | (split <;> omega) | (refine And.intro ?_ ?_ <;> split <;> omega)) | omega)) ?_
  rintro σ_40 - ⟨hσ_40, flσ_40⟩
  have frσ_40 : FC [65536, 65792, 66048, 66304, 66560, 66816, 67072, 67328, 67584, 67840, 68096, 68352, 68608, 68864, 69120, 69376, kI_sign, kI_used] [] σ σ_40 := FC_tr frσ_38 flσ_40 (by first | decide | (rcases hE with rfl | rfl | rfl <;> decide)) (by first | decide | (rcases hE with rfl | rfl | rfl <;> decide)) (by simp) (by simp)
  refine wp_bd (s_I_putTerm (σ := σ_40) (to_0 := 10) (one_0 := 6) (two_0 := 2) (three_0 := 4) hσ_40 (by (try dsimp only) <;> first | assumption | omega | ((try simp (disch := omega) only [w32_of, w64_of, w8_of]) <;> first | assumption | omega | (split <;> omega) | (refine And.intro ?_ ?_ <;> split <;> omega)) | omega) (by (try dsimp only) <;> first | assumption | omega | ((try simp (disch := omega) only [w32_of, w64_of, w8_of]) <;> first | assumption | omega | (split <;> omega) | (refine And.intro ?_ ?_ <;> split <;> omega)) | omega) (by (try dsimp only) <;> first | assumption | omega | ((try simp (disch := omega) only [w32_of, w64_of, w8_of]) <;> first | assumption | omega | (split <;> omega) | (refine And.intro ?_ ?_ <;> split <;> omega)) | omega) (by (try dsimp only) <;> first | assumption | omega | ((try simp (disch := omega) only [w32_of, w64_of, w8_of]) <;> first | assumption | omega | (split <;> omega) | (refine And.intro ?_ ?_ <;> split <;> omega)) | omega)) ?_
  rintro σ_42 - ⟨hσ_42, flσ_42⟩
  have frσ_42 : FC [65536, 65792, 66048, 66304, 66560, 66816, 67072, 67328, 67584, 67840, 68096, 68352, 68608, 68864, 69120, 69376, kI_sign, kI_used] [] σ σ_42 := FC_tr frσ_40 flσ_42 (by first | decide | (rcases hE with rfl | rfl | rfl <;> decide)) (by first | decide | (rcases hE with rfl | rfl | rfl <;> decide)) (by simp) (by simp)
  refine wp_bd (s_I_addSigned (σ := σ_42) (to_0 := 11) (one_0 := 8) (two_0 := 9) (factor_0 := 1) hσ_42 (by (try dsimp only) <;> first | assumption | omega | ((try simp (disch := omega) only [w32_of, w64_of, w8_of]) <;> first | assumption | omega | (split <;> omega) | (refine And.intro ?_ ?_ <;> split <;> omega)) | omega) (by (try dsimp only) <;> first | assumption | omega | ((try simp (disch := omega) only [w32_of, w64_of, w8_of]) <;> first | assumption | omega | (split <;> omega) | (refine And.intro ?_ ?_ <;> split <;> omega)) | omega) (by (try dsimp only) <;> first | assumption | omega | ((try simp (disch := omega) only [w32_of, w64_of, w8_of]) <;> first | assumption | omega | (split <;> omega) | (refine And.intro ?_ ?_ <;> split <;> omega)) | omega) (by (try dsimp only) <;> first | assumption | omega | ((try simp (disch := omega) only [w32_of, w64_of, w8_of]) <;> first | assumption | omega | (split <;> omega) | (refine And.intro ?_ ?_ <;> split <;> omega)) | omega)) ?_
  rintro σ_44 - ⟨hσ_44, flσ_44⟩
  have frσ_44 : FC [65536, 65792, 66048, 66304, 66560, 66816, 67072, 67328, 67584, 67840, 68096, 68352, 68608, 68864, 69120, 69376, kI_sign, kI_used] [] σ σ_44 := FC_tr frσ_42 flσ_44 (by first | decide | (rcases hE with rfl | rfl | rfl <;> decide)) (by first | decide | (rcases hE with rfl | rfl | rfl <;> decide)) (by simp) (by simp)
  refine wp_bd (s_I_addSigned (σ := σ_44) (to_0 := 12) (one_0 := 11) (two_0 := 10) (factor_0 := 1) hσ_44 (by (try dsimp only) <;> first | assumption | omega | ((try simp (disch := omega) only [w32_of, w64_of, w8_of]) <;> first | assumption | omega | (split <;> omega) | (refine And.intro ?_ ?_ <;> split <;> omega)) | omega) (by (try dsimp only) <;> first | assumption | omega | ((try simp (disch := omega) only [w32_of, w64_of, w8_of]) <;> first | assumption | omega | (split <;> omega) | (refine And.intro ?_ ?_ <;> split <;> omega)) | omega) (by (try dsimp only) <;> first | assumption | omega | ((try simp (disch := omega) only [w32_of, w64_of, w8_of]) <;> first | assumption | omega | (split <;> omega) | (refine And.intro ?_ ?_ <;> split <;> omega)) | omega) (by (try dsimp only) <;> first | assumption | omega | ((try simp (disch := omega) only [w32_of, w64_of, w8_of]) <;> first | assumption | omega | (split <;> omega) | (refine And.intro ?_ ?_ <;> split <;> omega)) | omega)) ?_
  rintro σ_46 - ⟨hσ_46, flσ_46⟩
  have frσ_46 : FC [65536, 65792, 66048, 66304, 66560, 66816, 67072, 67328, 67584, 67840, 68096, 68352, 68608, 68864, 69120, 69376, kI_sign, kI_used] [] σ σ_46 := FC_tr frσ_44 flσ_46 (by first | decide | (rcases hE with rfl | rfl | rfl <;> decide)) (by first | decide | (rcases hE with rfl | rfl | rfl <;> decide)) (by simp) (by simp)
  refine wp_rdI (by (try dsimp only) <;> first | assumption | omega | ((try simp (disch := omega) only [w32_of, w64_of, w8_of]) <;> first | assumption | omega | (split <;> omega) | (refine And.intro ?_ ?_ <;> split <;> omega)) | omega) (by (try dsimp only) <;> first | assumption | omega | ((try simp (disch := omega) only [w32_of, w64_of, w8_of]) <;> first | assumption | omega | (split <;> omega) | (refine And.intro ?_ ?_ <;> split <;> omega)) | omega) (fun x_47 e_x_47 => ?_)
  have b_x_47 : (-1) ≤ x_47 ∧ x_47 ≤ 1 := by rw [e_x_47]; exact ii_kI_sign hσ_46 _
  try simp (disch := omega) only [w32_of, w64_of, w8_of] at e_x_47
  have c61 := ii_kI_sign hσ_46 12
  exact wp_some ⟨hσ_46, frσ_46⟩
