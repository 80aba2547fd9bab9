theorem v_here {σ : SG} (hσ : II σ) : wp_ (fR_here σ) (fun zz_ => ((-1) ≤ zz_ ∧ zz_ ≤ 255) ∧ (zz_ = hrc_ σ) ∧ ((zz_ = (-1)) ∨ ((σ kR_at 0) < (σ kR_size 0)))) := by
  unfold fR_here
  refine wp_bd (P := fun rr_ => ((-1) ≤ rr_ ∧ rr_ ≤ 255) ∧ (rr_ = hrc_ σ) ∧ ((rr_ = (-1)) ∨ ((σ kR_at 0) < (σ kR_size 0)))) ?_ ?_
  · have c2 := ii_kR_at hσ 0
    have c3 := w32_rng (σ kR_at 0)
    have c4 := ii_kR_size hσ 0
    have c5 := w32_rng (σ kR_size 0)
    refine wp_if (fun c1 => ?_) (fun c1 => ?_)
    · try simp (disch := omega) only [w32_of, w64_of, w8_of, decide_eq_true_eq, decide_eq_false_iff_not, Bool.not_eq_true] at c1
      refine wp_rdI (by (try dsimp only) <;> first | assumption | omega | ((try simp (disch := omega) only [w32_of, w64_of, w8_of]) <;> first | assumption | omega | (split <;> omega) | (refine And.intro ?_ ?_ <;> split <;> omega)) | omega) (by (try dsimp only) <;> first | assumption | omega | ((try simp (disch := omega) only [w32_of, w64_of, w8_of]) <;> first | assumption | omega | (split <;> omega) | (refine And.intro ?_ ?_ <;> split <;> omega)) | omega) (fun x_4 e_x_4 => ?_)
      have b_x_4 : (-128) ≤ x_4 ∧ x_4 ≤ 127 := by rw [e_x_4]; exact ii_kR_tape hσ _
      try simp (disch := omega) only [w32_of, w64_of, w8_of] at e_x_4
      have c6 := ii_kR_tape hσ (σ kR_at 0)
      have c7 := w8_rng x_4
      have c8 := q_ian_bd (w8 x_4) (m := 255) (by decide) (by decide)
      try simp (disch := omega) only [w32_of, w64_of, w8_of] at c8
      exact wp_some ⟨(by (try dsimp only) <;> first | assumption | omega | ((try simp (disch := omega) only [w32_of, w64_of, w8_of]) <;> first | assumption | omega | (split <;> omega) | (refine And.intro ?_ ?_ <;> split <;> omega)) | omega), (by (try dsimp only) <;> (unfold hrc_; first | (rw [if_pos (by omega), e_x_4]) | (rw [if_neg (by omega)]))), (by (try dsimp only) <;> first | assumption | omega | ((try simp (disch := omega) only [w32_of, w64_of, w8_of]) <;> first | assumption | omega | (split <;> omega) | (refine And.intro ?_ ?_ <;> split <;> omega)) | omega)⟩
    · try simp (disch := omega) only [w32_of, w64_of, w8_of, decide_eq_true_eq, decide_eq_false_iff_not, Bool.not_eq_true] at c1
      exact wp_some ⟨(by (try dsimp only) <;> first | assumption | omega | ((try simp (disch := omega) only [w32_of, w64_of, w8_of]) <;> first | assumption | omega | (split <;> omega) | (refine And.intro ?_ ?_ <;> split <;> omega)) | omega), (by (try dsimp only) <;> (unfold hrc_; first | (rw [if_pos (by omega), e_x_4]) | (rw [if_neg (by omega)]))), (by (try dsimp only) <;> first | assumption | omega | ((try simp (disch := omega) only [w32_of, w64_of, w8_of]) <;> first | assumption | omega | (split <;> omega) | (refine And.intro ?_ ?_ <;> split <;> omega)) | omega)⟩
  rintro x_8 _ ⟨g9, g10, g11⟩
  have c12 := ii_kR_at hσ 0
  have c13 := ii_kR_size hσ 0
  exact wp_some ⟨(by (try dsimp only) <;> first | assumption | omega | ((try simp (disch := omega) only [w32_of, w64_of, w8_of]) <;> first | assumption | omega | (split <;> omega) | (refine And.intro ?_ ?_ <;> split <;> omega)) | omega), (by (try dsimp only) <;> (assumption)), (by (try dsimp only) <;> first | assumption | omega | ((try simp (disch := omega) only [w32_of, w64_of, w8_of]) <;> first | assumption | omega | (split <;> omega) | (refine And.intro ?_ ?_ <;> split <;> omega)) | omega)⟩
theorem v_wrong {σ : SG} {kind_0 : Int} {where_0 : Int} (hσ : II σ) (qkind_0 : 1 ≤ kind_0 ∧ kind_0 ≤ 9) (qwhere_0 : 0 ≤ where_0 ∧ where_0 ≤ 65536) : wp_ (fR_wrong σ kind_0 where_0) (fun zz_ => II zz_.2 ∧ FR [kR_faultKind, kR_faultPlace] σ zz_.2 ∧ (zz_.1 = false)) := by
  unfold fR_wrong
  refine wp_wfI hσ b_kR_faultKind (by (try dsimp only) <;> first | assumption | omega | ((try simp (disch := omega) only [w32_of, w64_of, w8_of]) <;> first | assumption | omega | (split <;> omega) | (refine And.intro ?_ ?_ <;> split <;> omega)) | omega) (fun σ_1 hσ_1 eσ_1 => ?_)
  try simp (disch := omega) only [w32_of, w64_of, w8_of] at eσ_1
  have flσ_1 := FR_sg eσ_1
  have frσ_1 : FR [kR_faultKind, kR_faultPlace] σ σ_1 := FR_le flσ_1 (by decide)
  refine wp_wfI hσ_1 b_kR_faultPlace (by (try dsimp only) <;> first | assumption | omega | ((try simp (disch := omega) only [w32_of, w64_of, w8_of]) <;> first | assumption | omega | (split <;> omega) | (refine And.intro ?_ ?_ <;> split <;> omega)) | omega) (fun σ_2 hσ_2 eσ_2 => ?_)
  try simp (disch := omega) only [w32_of, w64_of, w8_of] at eσ_2
  have flσ_2 := FR_sg eσ_2
  have frσ_2 : FR [kR_faultKind, kR_faultPlace] σ σ_2 := FR_tr frσ_1 flσ_2 (by decide) (by decide)
  exact wp_some ⟨hσ_2, frσ_2, (by (try dsimp only) <;> first | assumption | omega | ((try simp (disch := omega) only [w32_of, w64_of, w8_of]) <;> first | assumption | omega | (split <;> omega) | (refine And.intro ?_ ?_ <;> split <;> omega)) | omega)⟩
theorem v_strange {σ : SG} {word_0 : Bool} (hσ : II σ) : wp_ (fR_strange σ word_0) (fun zz_ => II zz_.2 ∧ FR [kR_faultKind, kR_faultPlace] σ zz_.2 ∧ (zz_.1 = false)) := by
  unfold fR_strange
  refine wp_bd (v_here (σ := σ) hσ) ?_
  rintro x_2 - ⟨g1, g2, g3⟩
  try simp (disch := omega) only [w32_of, w64_of, w8_of] at g1
  try simp (disch := omega) only [w32_of, w64_of, w8_of] at g2
  have c4 := ii_kR_at hσ 0
  have c5 := ii_kR_size hσ 0
  try simp (disch := omega) only [w32_of, w64_of, w8_of] at g3
  have c7 := w32_rng x_2
  refine wp_if (fun c6 => ?_) (fun c6 => ?_)
  · try simp (disch := omega) only [w32_of, w64_of, w8_of, decide_eq_true_eq, decide_eq_false_iff_not, Bool.not_eq_true, fR_isLetter] at c6
    refine wp_bd (v_wrong (σ := σ) (kind_0 := (if (word_0 = true) then 2 else 3)) (where_0 := (σ kR_at 0)) hσ (by (try dsimp only) <;> first | assumption | omega | ((try simp (disch := omega) only [w32_of, w64_of, w8_of]) <;> first | assumption | omega | (split <;> omega) | (refine And.intro ?_ ?_ <;> split <;> omega)) | omega) (by (try dsimp only) <;> first | assumption | omega | ((try simp (disch := omega) only [w32_of, w64_of, w8_of]) <;> first | assumption | omega | (split <;> omega) | (refine And.intro ?_ ?_ <;> split <;> omega)) | omega)) ?_
    rintro ⟨x_6, σ_5⟩ - y9
    try dsimp only at y9 ⊢
    obtain ⟨hσ_5, flσ_5, g8⟩ := y9
    have frσ_5 : FR [kR_faultKind, kR_faultPlace] σ σ_5 := FR_le flσ_5 (by decide)
    try simp (disch := omega) only [w32_of, w64_of, w8_of] at g8
    exact wp_some ⟨hσ_5, frσ_5, (by (try dsimp only) <;> first | assumption | omega | ((try simp (disch := omega) only [w32_of, w64_of, w8_of]) <;> first | assumption | omega | (split <;> omega) | (refine And.intro ?_ ?_ <;> split <;> omega)) | omega)⟩
  · try simp (disch := omega) only [w32_of, w64_of, w8_of, decide_eq_true_eq, decide_eq_false_iff_not, Bool.not_eq_true, fR_isLetter] at c6
    refine wp_lt (fun x_9 e_x_9 => ?_)
    try simp (disch := omega) only [w32_of, w64_of, w8_of] at e_x_9
    refine wp_bd (v_wrong (σ := σ) (kind_0 := (if (x_9 = true) then 3 else 1)) (where_0 := (σ kR_at 0)) hσ (by (try dsimp only) <;> first | assumption | omega | ((try simp (disch := omega) only [w32_of, w64_of, w8_of]) <;> first | assumption | omega | (split <;> omega) | (refine And.intro ?_ ?_ <;> split <;> omega)) | omega) (by (try dsimp only) <;> first | assumption | omega | ((try simp (disch := omega) only [w32_of, w64_of, w8_of]) <;> first | assumption | omega | (split <;> omega) | (refine And.intro ?_ ?_ <;> split <;> omega)) | omega)) ?_
    rintro ⟨x_13, σ_12⟩ - y11
    try dsimp only at y11 ⊢
    obtain ⟨hσ_12, flσ_12, g10⟩ := y11
    have frσ_12 : FR [kR_faultKind, kR_faultPlace] σ σ_12 := FR_le flσ_12 (by decide)
    try simp (disch := omega) only [w32_of, w64_of, w8_of] at g10
    exact wp_some ⟨hσ_12, frσ_12, (by (try dsimp only) <;> first | assumption | omega | ((try simp (disch := omega) only [w32_of, w64_of, w8_of]) <;> first | assumption | omega | (split <;> omega) | (refine And.intro ?_ ?_ <;> split <;> omega)) | omega)⟩
theorem v_skip {σ : SG} (hσ : II σ) (w0 : σ kR_at 0 ≤ σ kR_size 0) : wp_ (fR_skip σ) (fun zz_ => II zz_ ∧ FR [kR_at] σ zz_ ∧ (σ kR_at 0 ≤ zz_ kR_at 0) ∧ (zz_ kR_at 0 ≤ σ kR_size 0)) := by
  unfold fR_skip
  have c1 := ii_kR_at hσ 0
  have c2 := ii_kR_size hσ 0
  refine wp_bd (P := fun rr_ => II rr_ ∧ FR [kR_at] σ rr_ ∧ (σ kR_at 0 ≤ rr_ kR_at 0) ∧ (rr_ kR_at 0 ≤ σ kR_size 0)) ?_ ?_
  · refine wp_whl (fun ss_ => II ss_ ∧ FR [kR_at] σ ss_ ∧ (σ kR_at 0 ≤ ss_ kR_at 0) ∧ (ss_ kR_at 0 ≤ σ kR_size 0)) (fun ss_ => (65536 - (ss_ kR_at 0)).toNat) ⟨hσ, (FR_refl _ _), (by (try dsimp only) <;> first | assumption | omega | ((try simp (disch := omega) only [w32_of, w64_of, w8_of]) <;> first | assumption | omega | (split <;> omega) | (refine And.intro ?_ ?_ <;> split <;> omega)) | omega), (by (try dsimp only) <;> first | assumption | omega | ((try simp (disch := omega) only [w32_of, w64_of, w8_of]) <;> first | assumption | omega | (split <;> omega) | (refine And.intro ?_ ?_ <;> split <;> omega)) | omega)⟩ ?_
    rintro σ_1 ⟨hσ_1, frσ_1, g3, g4⟩
    refine wp_bd (v_here (σ := σ_1) hσ_1) ?_
    rintro x_10 - ⟨g5, g6, g7⟩
    try simp (disch := omega) only [w32_of, w64_of, w8_of] at g5
    try simp (disch := omega) only [w32_of, w64_of, w8_of] at g6
    have c8 := ii_kR_at hσ_1 0
    have c9 := ii_kR_size hσ_1 0
    have c10 := FR_at frσ_1 (c := kR_size) (by decide) 0
    try simp (disch := omega) only [w32_of, w64_of, w8_of] at g7
    refine wp_if (fun c11 => ?_) (fun c11 => ?_)
    · try simp (disch := omega) only [w32_of, w64_of, w8_of, decide_eq_true_eq, decide_eq_false_iff_not, Bool.not_eq_true, fR_isBlank] at c11
      refine wp_wfI hσ_1 b_kR_at (by (try dsimp only) <;> first | assumption | omega | ((try simp (disch := omega) only [w32_of, w64_of, w8_of]) <;> first | assumption | omega | (split <;> omega) | (refine And.intro ?_ ?_ <;> split <;> omega)) | omega) (fun σ_12 hσ_12 eσ_12 => ?_)
      try simp (disch := omega) only [w32_of, w64_of, w8_of] at eσ_12
      have flσ_12 := FR_sg eσ_12
      have frσ_12 : FR [kR_at] σ σ_12 := FR_tr frσ_1 flσ_12 (by decide) (by decide)
      have c12 := ii_kR_at hσ_12 0
      have c13 := sg_val eσ_12
      exact wp_some (x_inl ⟨⟨hσ_12, frσ_12, (by (try dsimp only) <;> first | assumption | omega | ((try simp (disch := omega) only [w32_of, w64_of, w8_of]) <;> first | assumption | omega | (split <;> omega) | (refine And.intro ?_ ?_ <;> split <;> omega)) | omega), (by (try dsimp only) <;> first | assumption | omega | ((try simp (disch := omega) only [w32_of, w64_of, w8_of]) <;> first | assumption | omega | (split <;> omega) | (refine And.intro ?_ ?_ <;> split <;> omega)) | omega)⟩, (by (try dsimp only) <;> first | assumption | omega | ((try simp (disch := omega) only [w32_of, w64_of, w8_of]) <;> first | assumption | omega | (split <;> omega) | (refine And.intro ?_ ?_ <;> split <;> omega)) | omega)⟩)
    · try simp (disch := omega) only [w32_of, w64_of, w8_of, decide_eq_true_eq, decide_eq_false_iff_not, Bool.not_eq_true, fR_isBlank] at c11
      exact wp_some (x_inr ⟨hσ_1, frσ_1, (by (try dsimp only) <;> first | assumption | omega | ((try simp (disch := omega) only [w32_of, w64_of, w8_of]) <;> first | assumption | omega | (split <;> omega) | (refine And.intro ?_ ?_ <;> split <;> omega)) | omega), (by (try dsimp only) <;> first | assumption | omega | ((try simp (disch := omega) only [w32_of, w64_of, w8_of]) <;> first | assumption | omega | (split <;> omega) | (refine And.intro ?_ ?_ <;> split <;> omega)) | omega)⟩)
  rintro σ_15 _ ⟨hσ_15, frσ_15, g14, g15⟩
  have c16 := ii_kR_at hσ_15 0
  exact wp_some ⟨hσ_15, frσ_15, (by (try dsimp only) <;> first | assumption | omega | ((try simp (disch := omega) only [w32_of, w64_of, w8_of]) <;> first | assumption | omega | (split <;> omega) | (refine And.intro ?_ ?_ <;> split <;> omega)) | omega), (by (try dsimp only) <;> first | assumption | omega | ((try simp (disch := omega) only [w32_of, w64_of, w8_of]) <;> first | assumption | omega | (split <;> omega) | (refine And.intro ?_ ?_ <;> split <;> omega)) | omega)⟩
theorem v_digitsOn {σ : SG} (hσ : II σ) (w0 : σ kR_at 0 ≤ σ kR_size 0) : wp_ (fR_digitsOn σ) (fun zz_ => II zz_ ∧ FR [kR_at] σ zz_ ∧ (σ kR_at 0 ≤ zz_ kR_at 0) ∧ (zz_ kR_at 0 ≤ σ kR_size 0) ∧ (∀ i, σ kR_at 0 ≤ i → i < zz_ kR_at 0 → 48 ≤ σ kR_tape i ∧ σ kR_tape i ≤ 57)) := by
  unfold fR_digitsOn
  have c1 := ii_kR_at hσ 0
  have c2 := ii_kR_size hσ 0
  refine wp_bd (P := fun rr_ => II rr_ ∧ FR [kR_at] σ rr_ ∧ (σ kR_at 0 ≤ rr_ kR_at 0) ∧ (rr_ kR_at 0 ≤ σ kR_size 0) ∧ (∀ i, σ kR_at 0 ≤ i → i < rr_ kR_at 0 → 48 ≤ σ kR_tape i ∧ σ kR_tape i ≤ 57)) ?_ ?_
  · refine wp_whl (fun ss_ => II ss_ ∧ FR [kR_at] σ ss_ ∧ (σ kR_at 0 ≤ ss_ kR_at 0) ∧ (ss_ kR_at 0 ≤ σ kR_size 0) ∧ (∀ i, σ kR_at 0 ≤ i → i < ss_ kR_at 0 → 48 ≤ σ kR_tape i ∧ σ kR_tape i ≤ 57)) (fun ss_ => (65536 - (ss_ kR_at 0)).toNat) ⟨hσ, (FR_refl _ _), (by (try dsimp only) <;> first | assumption | omega | ((try simp (disch := omega) only [w32_of, w64_of, w8_of]) <;> first | assumption | omega | (split <;> omega) | (refine And.intro ?_ ?_ <;> split <;> omega)) | omega), (by (try dsimp only) <;> first | assumption | omega | ((try simp (disch := omega) only [w32_of, w64_of, w8_of]) <;> first | assumption | omega | (split <;> omega) | (refine And.intro ?_ ?_ <;> split <;> omega)) | omega), (by (try dsimp only) <;> (first | (intro i a b; exact absurd b (by omega)) | (intro i a b; by_cases q : i = σ_1 kR_at 0 <;> first | (rw [q]; omega) | exact gd i a (by omega))))⟩ ?_
    rintro σ_1 ⟨hσ_1, frσ_1, g3, g4, gd⟩
    refine wp_bd (v_here (σ := σ_1) hσ_1) ?_
    rintro x_10 - ⟨gr, gv, gw⟩
    try simp (disch := omega) only [w32_of, w64_of, w8_of] at gr
    try simp (disch := omega) only [w32_of, w64_of, w8_of] at gv
    have c5 := ii_kR_at hσ_1 0
    have c6 := ii_kR_size hσ_1 0
    have c7 := FR_at frσ_1 (c := kR_size) (by decide) 0
    try simp (disch := omega) only [w32_of, w64_of, w8_of] at gw
    refine wp_if (fun c8 => ?_) (fun c8 => ?_)
    · try simp (disch := omega) only [w32_of, w64_of, w8_of, decide_eq_true_eq, decide_eq_false_iff_not, Bool.not_eq_true, fR_isDigit] at c8
      have hd1 := hr_d hσ_1 (by omega)
      rw [FR_at frσ_1 (c := kR_tape) (by decide), ← gv] at hd1
      refine wp_wfI hσ_1 b_kR_at (by (try dsimp only) <;> first | assumption | omega | ((try simp (disch := omega) only [w32_of, w64_of, w8_of]) <;> first | assumption | omega | (split <;> omega) | (refine And.intro ?_ ?_ <;> split <;> omega)) | omega) (fun σ_12 hσ_12 eσ_12 => ?_)
      try simp (disch := omega) only [w32_of, w64_of, w8_of] at eσ_12
      have flσ_12 := FR_sg eσ_12
      have frσ_12 : FR [kR_at] σ σ_12 := FR_tr frσ_1 flσ_12 (by decide) (by decide)
      have c9 := ii_kR_at hσ_12 0
      have c10 := sg_val eσ_12
      exact wp_some (x_inl ⟨⟨hσ_12, frσ_12, (by (try dsimp only) <;> first | assumption | omega | ((try simp (disch := omega) only [w32_of, w64_of, w8_of]) <;> first | assumption | omega | (split <;> omega) | (refine And.intro ?_ ?_ <;> split <;> omega)) | omega), (by (try dsimp only) <;> first | assumption | omega | ((try simp (disch := omega) only [w32_of, w64_of, w8_of]) <;> first | assumption | omega | (split <;> omega) | (refine And.intro ?_ ?_ <;> split <;> omega)) | omega), (by (try dsimp only) <;> (first | (intro i a b; exact absurd b (by omega)) | (intro i a b; by_cases q : i = σ_1 kR_at 0 <;> first | (rw [q]; omega) | exact gd i a (by omega))))⟩, (by (try dsimp only) <;> first | assumption | omega | ((try simp (disch := omega) only [w32_of, w64_of, w8_of]) <;> first | assumption | omega | (split <;> omega) | (refine And.intro ?_ ?_ <;> split <;> omega)) | omega)⟩)
    · try simp (disch := omega) only [w32_of, w64_of, w8_of, decide_eq_true_eq, decide_eq_false_iff_not, Bool.not_eq_true, fR_isDigit] at c8
      exact wp_some (x_inr ⟨hσ_1, frσ_1, (by (try dsimp only) <;> first | assumption | omega | ((try simp (disch := omega) only [w32_of, w64_of, w8_of]) <;> first | assumption | omega | (split <;> omega) | (refine And.intro ?_ ?_ <;> split <;> omega)) | omega), (by (try dsimp only) <;> first | assumption | omega | ((try simp (disch := omega) only [w32_of, w64_of, w8_of]) <;> first | assumption | omega | (split <;> omega) | (refine And.intro ?_ ?_ <;> split <;> omega)) | omega), (by (try dsimp only) <;> (exact gd))⟩)
  rintro σ_15 _ ⟨hσ_15, frσ_15, g11, g12, gd⟩
  have c13 := ii_kR_at hσ_15 0
  exact wp_some ⟨hσ_15, frσ_15, (by (try dsimp only) <;> first | assumption | omega | ((try simp (disch := omega) only [w32_of, w64_of, w8_of]) <;> first | assumption | omega | (split <;> omega) | (refine And.intro ?_ ?_ <;> split <;> omega)) | omega), (by (try dsimp only) <;> first | assumption | omega | ((try simp (disch := omega) only [w32_of, w64_of, w8_of]) <;> first | assumption | omega | (split <;> omega) | (refine And.intro ?_ ?_ <;> split <;> omega)) | omega), (by (try dsimp only) <;> (exact gd))⟩
theorem s_R_isWord {σ : SG} {from_0 : Int} {start_0 : Int} {end_0 : Int} (hσ : II σ) (qfrom_0 : 0 ≤ from_0 ∧ from_0 ≤ 65536) (qstart_0 : 0 ≤ start_0 ∧ start_0 ≤ 127) (qend_0 : 0 ≤ end_0 ∧ end_0 ≤ 127) (w0 : from_0 ≤ σ kR_at 0) (w1 : end_0 < 90) : wp_ (fR_isWord σ from_0 start_0 end_0) (fun zz_ => True) := by
  unfold fR_isWord
  have c1 := ii_kR_at hσ 0
  have hsl := sl10
  have hat := ii_kR_at hσ 0
  have c2 := w32_rng ((σ kR_at 0) - from_0)
  have c3 := w32_rng (end_0 - start_0)
  refine wp_lt (fun x_2 e_x_2 => ?_)
  try simp (disch := omega) only [w32_of, w64_of, w8_of] at e_x_2
  refine wp_bd (P := fun rr_ => (0 ≤ rr_.2 ∧ rr_.2 ≤ 127)) ?_ ?_
  · refine wp_whl (fun ss_ => (0 ≤ ss_.2 ∧ ss_.2 ≤ 127) ∧ (ss_.1 = true → σ kR_at 0 - from_0 = end_0 - start_0)) (fun ss_ => (128 - ss_.2).toNat) ⟨(by (try dsimp only) <;> first | assumption | omega | ((try simp (disch := omega) only [w32_of, w64_of, w8_of]) <;> first | assumption | omega | (split <;> omega) | (refine And.intro ?_ ?_ <;> split <;> omega)) | omega), (by (try dsimp only) <;> (first | (intro h; rw [e_x_2] at h; simp only [decide_eq_true_eq] at h; (try simp (disch := omega) only [w32_of] at h); omega) | exact fun _ => hl))⟩ ?_
    rintro ⟨like_3, k_4⟩ y5
    try dsimp only at y5 ⊢
    obtain ⟨g4, gl⟩ := y5
    have c6 := w32_rng k_4
    refine wp_if (fun cl => ?_) (fun cl => ?_)
    · try simp (disch := omega) only [w32_of, w64_of, w8_of, decide_eq_true_eq, decide_eq_false_iff_not, Bool.not_eq_true] at cl
      have hl := gl cl.2
      have cl1 := cl.1
      refine wp_bd (P := fun rr_ => True) ?_ ?_
      · have c7 := w32_rng (from_0 + k_4)
        refine wp_rdI (by (try dsimp only) <;> first | assumption | omega | ((try simp (disch := omega) only [w32_of, w64_of, w8_of]) <;> first | assumption | omega | (split <;> omega) | (refine And.intro ?_ ?_ <;> split <;> omega)) | omega) (by (try dsimp only) <;> first | assumption | omega | ((try simp (disch := omega) only [w32_of, w64_of, w8_of]) <;> first | assumption | omega | (split <;> omega) | (refine And.intro ?_ ?_ <;> split <;> omega)) | omega) (fun x_12 e_x_12 => ?_)
        have b_x_12 : (-128) ≤ x_12 ∧ x_12 ≤ 127 := by rw [e_x_12]; exact ii_kR_tape hσ _
        try simp (disch := omega) only [w32_of, w64_of, w8_of] at e_x_12
        have c8 := ii_kR_tape hσ (from_0 + k_4)
        have c9 := w32_rng (start_0 + k_4)
        refine wp_ck (by (try dsimp only) <;> first | assumption | omega | ((try simp (disch := omega) only [w32_of, w64_of, w8_of]) <;> first | assumption | omega | (split <;> omega) | (refine And.intro ?_ ?_ <;> split <;> omega)) | omega) ?_
        have c11 := w8_rng x_12
        have c12 := w32_rng (fR_large (w8 x_12))
        have c13 := w32_rng (sChr 10 (w32 (start_0 + k_4)))
        refine wp_if (fun c10 => ?_) (fun c10 => ?_)
        · try simp (disch := omega) only [w32_of, w64_of, w8_of, decide_eq_true_eq, decide_eq_false_iff_not, Bool.not_eq_true] at c10
          exact wp_some trivial
        · try simp (disch := omega) only [w32_of, w64_of, w8_of, decide_eq_true_eq, decide_eq_false_iff_not, Bool.not_eq_true] at c10
          exact wp_some trivial
      rintro x_18 _ -
      exact wp_some (x_inl ⟨⟨(by (try dsimp only) <;> first | assumption | omega | ((try simp (disch := omega) only [w32_of, w64_of, w8_of]) <;> first | assumption | omega | (split <;> omega) | (refine And.intro ?_ ?_ <;> split <;> omega)) | omega), (by (try dsimp only) <;> (first | (intro h; rw [e_x_2] at h; simp only [decide_eq_true_eq] at h; (try simp (disch := omega) only [w32_of] at h); omega) | exact fun _ => hl))⟩, (by (try dsimp only) <;> first | assumption | omega | ((try simp (disch := omega) only [w32_of, w64_of, w8_of]) <;> first | assumption | omega | (split <;> omega) | (refine And.intro ?_ ?_ <;> split <;> omega)) | omega)⟩)
    · try simp (disch := omega) only [w32_of, w64_of, w8_of, decide_eq_true_eq, decide_eq_false_iff_not, Bool.not_eq_true] at cl
      exact wp_some (x_inr (by (try dsimp only) <;> first | assumption | omega | ((try simp (disch := omega) only [w32_of, w64_of, w8_of]) <;> first | assumption | omega | (split <;> omega) | (refine And.intro ?_ ?_ <;> split <;> omega)) | omega))
  rintro ⟨like_32, k_33⟩ _ y15
  try dsimp only at y15 ⊢
  have g14 := y15
  exact wp_some trivial
theorem v_word {σ : SG} (hσ : II σ) (w0 : σ kR_at 0 ≤ σ kR_size 0) : wp_ (fR_word σ) (fun zz_ => II zz_.2 ∧ FR [kR_at] σ zz_.2 ∧ (0 ≤ zz_.1 ∧ zz_.1 ≤ 8) ∧ (σ kR_at 0 ≤ zz_.2 kR_at 0) ∧ (zz_.2 kR_at 0 ≤ σ kR_size 0) ∧ ((fR_isLetter (hrc_ σ) = true ∧ ¬ hrc_ σ = -1) → σ kR_at 0 < zz_.2 kR_at 0)) := by
  unfold fR_word
  have c1 := ii_kR_at hσ 0
  have c2 := ii_kR_size hσ 0
  have hsl := sl10
  refine wp_bd (P := fun rr_ => II rr_ ∧ FR [kR_at] σ rr_ ∧ (σ kR_at 0 ≤ rr_ kR_at 0) ∧ (rr_ kR_at 0 ≤ σ kR_size 0) ∧ ((fR_isLetter (hrc_ σ) = true ∧ ¬ hrc_ σ = -1) → σ kR_at 0 < rr_ kR_at 0)) ?_ ?_
  · refine wp_whl (fun ss_ => II ss_ ∧ FR [kR_at] σ ss_ ∧ (σ kR_at 0 ≤ ss_ kR_at 0) ∧ (ss_ kR_at 0 ≤ σ kR_size 0) ∧ (ss_ = σ ∨ σ kR_at 0 < ss_ kR_at 0)) (fun ss_ => (65536 - (ss_ kR_at 0)).toNat) ⟨hσ, (FR_refl _ _), (by (try dsimp only) <;> first | assumption | omega | ((try simp (disch := omega) only [w32_of, w64_of, w8_of]) <;> first | assumption | omega | (split <;> omega) | (refine And.intro ?_ ?_ <;> split <;> omega)) | omega), (by (try dsimp only) <;> first | assumption | omega | ((try simp (disch := omega) only [w32_of, w64_of, w8_of]) <;> first | assumption | omega | (split <;> omega) | (refine And.intro ?_ ?_ <;> split <;> omega)) | omega), (by (try dsimp only) <;> (first | exact Or.inl rfl | exact Or.inr (by omega) | assumption))⟩ ?_
    rintro σ_1 ⟨hσ_1, frσ_1, g3, g4, gi⟩
    refine wp_bd (v_here (σ := σ_1) hσ_1) ?_
    rintro x_20 - ⟨gr, gv, gd⟩
    try simp (disch := omega) only [w32_of, w64_of, w8_of] at gr
    try simp (disch := omega) only [w32_of, w64_of, w8_of] at gv
    have c5 := ii_kR_at hσ_1 0
    have c6 := ii_kR_size hσ_1 0
    have c7 := FR_at frσ_1 (c := kR_size) (by decide) 0
    try simp (disch := omega) only [w32_of, w64_of, w8_of] at gd
    have c9 := w32_rng x_20
    refine wp_if (fun c8 => ?_) (fun c8 => ?_)
    · try simp (disch := omega) only [w32_of, w64_of, w8_of, decide_eq_true_eq, decide_eq_false_iff_not, Bool.not_eq_true] at c8
      refine wp_bd (v_here (σ := σ_1) hσ_1) ?_
      rintro x_23 - ⟨gr, gv, gd⟩
      try simp (disch := omega) only [w32_of, w64_of, w8_of] at gr
      try simp (disch := omega) only [w32_of, w64_of, w8_of] at gv
      try simp (disch := omega) only [w32_of, w64_of, w8_of] at gd
      refine wp_if (fun c10 => ?_) (fun c10 => ?_)
      · try simp (disch := omega) only [w32_of, w64_of, w8_of, decide_eq_true_eq, decide_eq_false_iff_not, Bool.not_eq_true, fR_isLetter] at c10
        refine wp_wfI hσ_1 b_kR_at (by (try dsimp only) <;> first | assumption | omega | ((try simp (disch := omega) only [w32_of, w64_of, w8_of]) <;> first | assumption | omega | (split <;> omega) | (refine And.intro ?_ ?_ <;> split <;> omega)) | omega) (fun σ_25 hσ_25 eσ_25 => ?_)
        try simp (disch := omega) only [w32_of, w64_of, w8_of] at eσ_25
        have flσ_25 := FR_sg eσ_25
        have frσ_25 : FR [kR_at] σ σ_25 := FR_tr frσ_1 flσ_25 (by decide) (by decide)
        have c11 := ii_kR_at hσ_25 0
        have c12 := sg_val eσ_25
        exact wp_some (x_inl ⟨⟨hσ_25, frσ_25, (by (try dsimp only) <;> first | assumption | omega | ((try simp (disch := omega) only [w32_of, w64_of, w8_of]) <;> first | assumption | omega | (split <;> omega) | (refine And.intro ?_ ?_ <;> split <;> omega)) | omega), (by (try dsimp only) <;> first | assumption | omega | ((try simp (disch := omega) only [w32_of, w64_of, w8_of]) <;> first | assumption | omega | (split <;> omega) | (refine And.intro ?_ ?_ <;> split <;> omega)) | omega), (by (try dsimp only) <;> (first | exact Or.inl rfl | exact Or.inr (by omega) | assumption))⟩, (by (try dsimp only) <;> first | assumption | omega | ((try simp (disch := omega) only [w32_of, w64_of, w8_of]) <;> first | assumption | omega | (split <;> omega) | (refine And.intro ?_ ?_ <;> split <;> omega)) | omega)⟩)
      · try simp (disch := omega) only [w32_of, w64_of, w8_of, decide_eq_true_eq, decide_eq_false_iff_not, Bool.not_eq_true, fR_isLetter] at c10
        exact wp_some (x_inr ⟨hσ_1, frσ_1, (by (try dsimp only) <;> first | assumption | omega | ((try simp (disch := omega) only [w32_of, w64_of, w8_of]) <;> first | assumption | omega | (split <;> omega) | (refine And.intro ?_ ?_ <;> split <;> omega)) | omega), (by (try dsimp only) <;> first | assumption | omega | ((try simp (disch := omega) only [w32_of, w64_of, w8_of]) <;> first | assumption | omega | (split <;> omega) | (refine And.intro ?_ ?_ <;> split <;> omega)) | omega), (by (try dsimp only) <;> (intro hq; rcases gi with gi | gi; (exfalso; rw [← gi, ← gv] at hq; obtain ⟨q1, q2⟩ := hq; (first | omega | (simp only [fR_isLetter, decide_eq_true_eq] at q1; simp (disch := omega) only [w32_of] at q1; omega))); exact gi))⟩)
    · try simp (disch := omega) only [w32_of, w64_of, w8_of, decide_eq_true_eq, decide_eq_false_iff_not, Bool.not_eq_true] at c8
      exact wp_some (x_inr ⟨hσ_1, frσ_1, (by (try dsimp only) <;> first | assumption | omega | ((try simp (disch := omega) only [w32_of, w64_of, w8_of]) <;> first | assumption | omega | (split <;> omega) | (refine And.intro ?_ ?_ <;> split <;> omega)) | omega), (by (try dsimp only) <;> first | assumption | omega | ((try simp (disch := omega) only [w32_of, w64_of, w8_of]) <;> first | assumption | omega | (split <;> omega) | (refine And.intro ?_ ?_ <;> split <;> omega)) | omega), (by (try dsimp only) <;> (intro hq; rcases gi with gi | gi; (exfalso; rw [← gi, ← gv] at hq; obtain ⟨q1, q2⟩ := hq; (first | omega | (simp only [fR_isLetter, decide_eq_true_eq] at q1; simp (disch := omega) only [w32_of] at q1; omega))); exact gi))⟩)
  rintro σ_29 _ ⟨hσ_29, frσ_29, g13, g14, gL⟩
  refine wp_bx (P := fun rr_ => (0 ≤ rr_.1 ∧ rr_.1 ≤ 127) ∧ (0 ≤ rr_.2.2 ∧ rr_.2.2 ≤ 127)) ?_ ?_
  · refine wp_whl (fun ss_ => (0 ≤ ss_.1 ∧ ss_.1 ≤ 127) ∧ (0 ≤ ss_.2.2 ∧ ss_.2.2 ≤ 127) ∧ (ss_.1 ≤ ss_.2.2 ∧ ss_.2.2 ≤ 90) ∧ (ss_.2.1 = ((ct_ ss_.2.2.toNat ks_ : Nat) : Int))) (fun ss_ => (100 - ss_.2.2).toNat) ⟨(by (try dsimp only) <;> first | assumption | omega | ((try simp (disch := omega) only [w32_of, w64_of, w8_of]) <;> first | assumption | omega | (split <;> omega) | (refine And.intro ?_ ?_ <;> split <;> omega)) | omega), (by (try dsimp only) <;> first | assumption | omega | ((try simp (disch := omega) only [w32_of, w64_of, w8_of]) <;> first | assumption | omega | (split <;> omega) | (refine And.intro ?_ ?_ <;> split <;> omega)) | omega), (by (try dsimp only) <;> first | assumption | omega | ((try simp (disch := omega) only [w32_of, w64_of, w8_of]) <;> first | assumption | omega | (split <;> omega) | (refine And.intro ?_ ?_ <;> split <;> omega)) | omega), (by (try dsimp only) <;> (first | rfl | omega | (rw [gw]; omega)))⟩ ?_
    rintro ⟨start_30, which_31, k_32⟩ y18
    try dsimp only at y18 ⊢
    obtain ⟨g15, g16, g17, gw⟩ := y18
    have c20 := w32_rng k_32
    have c21 := w32_rng (sLen 10)
    refine wp_if (fun c19 => ?_) (fun c19 => ?_)
    · try simp (disch := omega) only [w32_of, w64_of, w8_of, decide_eq_true_eq, decide_eq_false_iff_not, Bool.not_eq_true] at c19
      refine wp_ck (by (try dsimp only) <;> first | assumption | omega | ((try simp (disch := omega) only [w32_of, w64_of, w8_of]) <;> first | assumption | omega | (split <;> omega) | (refine And.intro ?_ ?_ <;> split <;> omega)) | omega) ?_
      obtain ⟨kw1, kw2, kw3⟩ := ks_i (k := k_32) (by omega) (by omega)
      simp (disch := omega) only [w32_of (x := k_32)]
      rw [kw1]
      have c23 := w32_rng (sChr 10 (w32 k_32))
      refine wp_if (fun c22 => ?_) (fun c22 => ?_)
      · try simp (disch := omega) only [w32_of, w64_of, w8_of, decide_eq_true_eq, decide_eq_false_iff_not, Bool.not_eq_true] at c22
        have kw4 := kw3 (by assumption)
        exact wp_some (x_inl ⟨⟨(by (try dsimp only) <;> first | assumption | omega | ((try simp (disch := omega) only [w32_of, w64_of, w8_of]) <;> first | assumption | omega | (split <;> omega) | (refine And.intro ?_ ?_ <;> split <;> omega)) | omega), (by (try dsimp only) <;> first | assumption | omega | ((try simp (disch := omega) only [w32_of, w64_of, w8_of]) <;> first | assumption | omega | (split <;> omega) | (refine And.intro ?_ ?_ <;> split <;> omega)) | omega), (by (try dsimp only) <;> first | assumption | omega | ((try simp (disch := omega) only [w32_of, w64_of, w8_of]) <;> first | assumption | omega | (split <;> omega) | (refine And.intro ?_ ?_ <;> split <;> omega)) | omega), (by (try dsimp only) <;> (first | rfl | omega | (rw [gw]; omega)))⟩, (by (try dsimp only) <;> first | assumption | omega | ((try simp (disch := omega) only [w32_of, w64_of, w8_of]) <;> first | assumption | omega | (split <;> omega) | (refine And.intro ?_ ?_ <;> split <;> omega)) | omega)⟩)
      · try simp (disch := omega) only [w32_of, w64_of, w8_of, decide_eq_true_eq, decide_eq_false_iff_not, Bool.not_eq_true] at c22
        have kw4 := kw2 (by omega)
        have c24 := ii_kR_at hσ_29 0
        refine wp_bd (s_R_isWord (σ := σ_29) (from_0 := (σ kR_at 0)) (start_0 := start_30) (end_0 := k_32) hσ_29 (by (try dsimp only) <;> first | assumption | omega | ((try simp (disch := omega) only [w32_of, w64_of, w8_of]) <;> first | assumption | omega | (split <;> omega) | (refine And.intro ?_ ?_ <;> split <;> omega)) | omega) (by (try dsimp only) <;> first | assumption | omega | ((try simp (disch := omega) only [w32_of, w64_of, w8_of]) <;> first | assumption | omega | (split <;> omega) | (refine And.intro ?_ ?_ <;> split <;> omega)) | omega) (by (try dsimp only) <;> first | assumption | omega | ((try simp (disch := omega) only [w32_of, w64_of, w8_of]) <;> first | assumption | omega | (split <;> omega) | (refine And.intro ?_ ?_ <;> split <;> omega)) | omega) (by (try dsimp only) <;> first | assumption | omega | ((try simp (disch := omega) only [w32_of, w64_of, w8_of]) <;> first | assumption | omega | (split <;> omega) | (refine And.intro ?_ ?_ <;> split <;> omega)) | omega) (by (try dsimp only) <;> first | assumption | omega | ((try simp (disch := omega) only [w32_of, w64_of, w8_of]) <;> first | assumption | omega | (split <;> omega) | (refine And.intro ?_ ?_ <;> split <;> omega)) | omega)) ?_
        rintro x_45 - -
        refine wp_if (fun c26 => ?_) (fun c26 => ?_)
        · try simp (disch := omega) only [w32_of, w64_of, w8_of, decide_eq_true_eq, decide_eq_false_iff_not, Bool.not_eq_true] at c26
          exact wp_some (x_inr (x_inr ⟨hσ_29, frσ_29, (by (try dsimp only) <;> first | assumption | omega | ((try simp (disch := omega) only [w32_of, w64_of, w8_of]) <;> first | assumption | omega | (split <;> omega) | (refine And.intro ?_ ?_ <;> split <;> omega)) | omega), (by (try dsimp only) <;> first | assumption | omega | ((try simp (disch := omega) only [w32_of, w64_of, w8_of]) <;> first | assumption | omega | (split <;> omega) | (refine And.intro ?_ ?_ <;> split <;> omega)) | omega), (by (try dsimp only) <;> first | assumption | omega | ((try simp (disch := omega) only [w32_of, w64_of, w8_of]) <;> first | assumption | omega | (split <;> omega) | (refine And.intro ?_ ?_ <;> split <;> omega)) | omega), (by (try dsimp only) <;> (exact gL))⟩))
        · try simp (disch := omega) only [w32_of, w64_of, w8_of, decide_eq_true_eq, decide_eq_false_iff_not, Bool.not_eq_true] at c26
          exact wp_some (x_inl ⟨⟨(by (try dsimp only) <;> first | assumption | omega | ((try simp (disch := omega) only [w32_of, w64_of, w8_of]) <;> first | assumption | omega | (split <;> omega) | (refine And.intro ?_ ?_ <;> split <;> omega)) | omega), (by (try dsimp only) <;> first | assumption | omega | ((try simp (disch := omega) only [w32_of, w64_of, w8_of]) <;> first | assumption | omega | (split <;> omega) | (refine And.intro ?_ ?_ <;> split <;> omega)) | omega), (by (try dsimp only) <;> first | assumption | omega | ((try simp (disch := omega) only [w32_of, w64_of, w8_of]) <;> first | assumption | omega | (split <;> omega) | (refine And.intro ?_ ?_ <;> split <;> omega)) | omega), (by (try dsimp only) <;> (first | rfl | omega | (rw [gw]; omega)))⟩, (by (try dsimp only) <;> first | assumption | omega | ((try simp (disch := omega) only [w32_of, w64_of, w8_of]) <;> first | assumption | omega | (split <;> omega) | (refine And.intro ?_ ?_ <;> split <;> omega)) | omega)⟩)
    · try simp (disch := omega) only [w32_of, w64_of, w8_of, decide_eq_true_eq, decide_eq_false_iff_not, Bool.not_eq_true] at c19
      exact wp_some (x_inr (x_inl ⟨(by (try dsimp only) <;> first | assumption | omega | ((try simp (disch := omega) only [w32_of, w64_of, w8_of]) <;> first | assumption | omega | (split <;> omega) | (refine And.intro ?_ ?_ <;> split <;> omega)) | omega), (by (try dsimp only) <;> first | assumption | omega | ((try simp (disch := omega) only [w32_of, w64_of, w8_of]) <;> first | assumption | omega | (split <;> omega) | (refine And.intro ?_ ?_ <;> split <;> omega)) | omega)⟩))
  rintro ⟨start_49, which_50, k_51⟩ y29
  try dsimp only at y29 ⊢
  obtain ⟨g27, g28⟩ := y29
  have c30 := ii_kR_at hσ_29 0
  exact wp_some ⟨hσ_29, frσ_29, (by (try dsimp only) <;> first | assumption | omega | ((try simp (disch := omega) only [w32_of, w64_of, w8_of]) <;> first | assumption | omega | (split <;> omega) | (refine And.intro ?_ ?_ <;> split <;> omega)) | omega), (by (try dsimp only) <;> first | assumption | omega | ((try simp (disch := omega) only [w32_of, w64_of, w8_of]) <;> first | assumption | omega | (split <;> omega) | (refine And.intro ?_ ?_ <;> split <;> omega)) | omega), (by (try dsimp only) <;> first | assumption | omega | ((try simp (disch := omega) only [w32_of, w64_of, w8_of]) <;> first | assumption | omega | (split <;> omega) | (refine And.intro ?_ ?_ <;> split <;> omega)) | omega), (by (try dsimp only) <;> (exact gL))⟩
theorem v_emptyWord {σ : SG} (hσ : II σ) (w0 : σ kR_at 0 ≤ σ kR_size 0) : wp_ (fR_emptyWord σ) (fun zz_ => II zz_.2 ∧ FR [kR_at, kR_faultKind, kR_faultPlace] σ zz_.2 ∧ (σ kR_at 0 ≤ zz_.2 kR_at 0) ∧ (zz_.2 kR_at 0 ≤ σ kR_size 0)) := by
  unfold fR_emptyWord
  have c1 := ii_kR_at hσ 0
  have c2 := ii_kR_size hσ 0
  refine wp_bdk ?_
  refine wp_bd (v_word (σ := σ) hσ (by (try dsimp only) <;> first | assumption | omega | ((try simp (disch := omega) only [w32_of, w64_of, w8_of]) <;> first | assumption | omega | (split <;> omega) | (refine And.intro ?_ ?_ <;> split <;> omega)) | omega)) ?_
  rintro ⟨x_3, σ_2⟩ - y7
  try dsimp only at y7 ⊢
  obtain ⟨hσ_2, flσ_2, g3, g4, g5, g6⟩ := y7
  have frσ_2 : FR [kR_at, kR_faultKind, kR_faultPlace] σ σ_2 := FR_le flσ_2 (by decide)
  try simp (disch := omega) only [w32_of, w64_of, w8_of] at g3
  have c8 := ii_kR_at hσ_2 0
  try simp (disch := omega) only [w32_of, w64_of, w8_of] at g4
  try simp (disch := omega) only [w32_of, w64_of, w8_of] at g5
  try simp (disch := omega) only [w32_of, w64_of, w8_of] at g6
  have c10 := w32_rng x_3
  refine wp_if (fun c9 => ?_) (fun c9 => ?_)
  · try simp (disch := omega) only [w32_of, w64_of, w8_of, decide_eq_true_eq, decide_eq_false_iff_not, Bool.not_eq_true] at c9
    refine wp_somek ?_
    try dsimp only
    exact wp_some ⟨hσ_2, frσ_2, (by (try dsimp only) <;> first | assumption | omega | ((try simp (disch := omega) only [w32_of, w64_of, w8_of]) <;> first | assumption | omega | (split <;> omega) | (refine And.intro ?_ ?_ <;> split <;> omega)) | omega), (by (try dsimp only) <;> first | assumption | omega | ((try simp (disch := omega) only [w32_of, w64_of, w8_of]) <;> first | assumption | omega | (split <;> omega) | (refine And.intro ?_ ?_ <;> split <;> omega)) | omega)⟩
  · try simp (disch := omega) only [w32_of, w64_of, w8_of, decide_eq_true_eq, decide_eq_false_iff_not, Bool.not_eq_true] at c9
    refine wp_bd (v_wrong (σ := σ_2) (kind_0 := 2) (where_0 := (σ kR_at 0)) hσ_2 (by (try dsimp only) <;> first | assumption | omega | ((try simp (disch := omega) only [w32_of, w64_of, w8_of]) <;> first | assumption | omega | (split <;> omega) | (refine And.intro ?_ ?_ <;> split <;> omega)) | omega) (by (try dsimp only) <;> first | assumption | omega | ((try simp (disch := omega) only [w32_of, w64_of, w8_of]) <;> first | assumption | omega | (split <;> omega) | (refine And.intro ?_ ?_ <;> split <;> omega)) | omega)) ?_
    rintro ⟨x_8, σ_7⟩ - y12
    try dsimp only at y12 ⊢
    obtain ⟨hσ_7, flσ_7, g11⟩ := y12
    have frσ_7 : FR [kR_at, kR_faultKind, kR_faultPlace] σ σ_7 := FR_tr frσ_2 flσ_7 (by decide) (by decide)
    try simp (disch := omega) only [w32_of, w64_of, w8_of] at g11
    refine wp_if (fun c13 => ?_) (fun c13 => ?_)
    · exact absurd (c13.symm.trans g11) (by decide)
    · try simp (disch := omega) only [w32_of, w64_of, w8_of, decide_eq_true_eq, decide_eq_false_iff_not, Bool.not_eq_true] at c13
      refine wp_somek ?_
      try dsimp only
      have c14 := ii_kR_at hσ_7 0
      have c15 := FR_at flσ_7 (c := kR_at) (by decide) 0
      exact wp_some ⟨hσ_7, frσ_7, (by (try dsimp only) <;> first | assumption | omega | ((try simp (disch := omega) only [w32_of, w64_of, w8_of]) <;> first | assumption | omega | (split <;> omega) | (refine And.intro ?_ ?_ <;> split <;> omega)) | omega), (by (try dsimp only) <;> first | assumption | omega | ((try simp (disch := omega) only [w32_of, w64_of, w8_of]) <;> first | assumption | omega | (split <;> omega) | (refine And.intro ?_ ?_ <;> split <;> omega)) | omega)⟩
theorem v_tell {σ : SG} {v_0 : Int} (hσ : II σ) (w0 : (σ kR_planMany 32) ≤ 2047) : wp_ (fR_tell σ v_0) (fun zz_ => II zz_ ∧ FR [kR_plan, kR_planMany] σ zz_ ∧ NF σ zz_ ∧ ((zz_ kR_planMany 32) = (σ kR_planMany 32) + 1) ∧ (zz_ kR_plan (65536 + σ kR_planMany 32) = v_0) ∧ (∀ i, i ≠ 65536 + σ kR_planMany 32 → zz_ kR_plan i = σ kR_plan i)) := by
  unfold fR_tell
  have c1 := ii_kR_planMany hσ 32
  refine wp_rdI (by (try dsimp only) <;> first | assumption | omega | ((try simp (disch := omega) only [w32_of, w64_of, w8_of]) <;> first | assumption | omega | (split <;> omega) | (refine And.intro ?_ ?_ <;> split <;> omega)) | omega) (by (try dsimp only) <;> first | assumption | omega | ((try simp (disch := omega) only [w32_of, w64_of, w8_of]) <;> first | assumption | omega | (split <;> omega) | (refine And.intro ?_ ?_ <;> split <;> omega)) | omega) (fun x_1 e_x_1 => ?_)
  have b_x_1 : 0 ≤ x_1 ∧ x_1 ≤ 2048 := by rw [e_x_1]; exact ii_kR_planMany hσ _
  try simp (disch := omega) only [w32_of, w64_of, w8_of] at e_x_1
  have hx1 := e_x_1
  have c2 := w32_rng (65536 + x_1)
  refine wp_waN hσ b_kR_plan (by (try dsimp only) <;> first | assumption | omega | ((try simp (disch := omega) only [w32_of, w64_of, w8_of]) <;> first | assumption | omega | (split <;> omega) | (refine And.intro ?_ ?_ <;> split <;> omega)) | omega) (by (try dsimp only) <;> first | assumption | omega | ((try simp (disch := omega) only [w32_of, w64_of, w8_of]) <;> first | assumption | omega | (split <;> omega) | (refine And.intro ?_ ?_ <;> split <;> omega)) | omega) (fun σ_3 hσ_3 eσ_3 => ?_)
  try simp (disch := omega) only [w32_of, w64_of, w8_of] at eσ_3
  have flσ_3 := FR_sg eσ_3
  have frσ_3 : FR [kR_plan, kR_planMany] σ σ_3 := FR_le flσ_3 (by decide)
  have nfσ_3 : NF σ σ_3 := NF_tr (NF_refl _) (NF_plan eσ_3 (by (try dsimp only) <;> first | assumption | omega | ((try simp (disch := omega) only [w32_of, w64_of, w8_of]) <;> first | assumption | omega | (split <;> omega) | (refine And.intro ?_ ?_ <;> split <;> omega)) | omega))
  refine wp_rdI (by (try dsimp only) <;> first | assumption | omega | ((try simp (disch := omega) only [w32_of, w64_of, w8_of]) <;> first | assumption | omega | (split <;> omega) | (refine And.intro ?_ ?_ <;> split <;> omega)) | omega) (by (try dsimp only) <;> first | assumption | omega | ((try simp (disch := omega) only [w32_of, w64_of, w8_of]) <;> first | assumption | omega | (split <;> omega) | (refine And.intro ?_ ?_ <;> split <;> omega)) | omega) (fun x_5 e_x_5 => ?_)
  have b_x_5 : 0 ≤ x_5 ∧ x_5 ≤ 2048 := by rw [e_x_5]; exact ii_kR_planMany hσ_3 _
  try simp (disch := omega) only [w32_of, w64_of, w8_of] at e_x_5
  have c3 := ii_kR_planMany hσ_3 32
  have c4 := FR_at flσ_3 (c := kR_planMany) (by decide) 32
  refine wp_waI hσ_3 b_kR_planMany (by (try dsimp only) <;> first | assumption | omega | ((try simp (disch := omega) only [w32_of, w64_of, w8_of]) <;> first | assumption | omega | (split <;> omega) | (refine And.intro ?_ ?_ <;> split <;> omega)) | omega) (by (try dsimp only) <;> first | assumption | omega | ((try simp (disch := omega) only [w32_of, w64_of, w8_of]) <;> first | assumption | omega | (split <;> omega) | (refine And.intro ?_ ?_ <;> split <;> omega)) | omega) (by (try dsimp only) <;> first | assumption | omega | ((try simp (disch := omega) only [w32_of, w64_of, w8_of]) <;> first | assumption | omega | (split <;> omega) | (refine And.intro ?_ ?_ <;> split <;> omega)) | omega) (fun σ_7 hσ_7 eσ_7 => ?_)
  try simp (disch := omega) only [w32_of, w64_of, w8_of] at eσ_7
  have flσ_7 := FR_sg eσ_7
  have frσ_7 : FR [kR_plan, kR_planMany] σ σ_7 := FR_tr frσ_3 flσ_7 (by decide) (by decide)
  have nfσ_7 : NF σ σ_7 := NF_tr nfσ_3 (NF_planMany eσ_7)
  have c5 := ii_kR_planMany hσ_7 32
  have c6 := sg_val eσ_7
  have c7 := FR_at flσ_7 (c := kR_plan) (by decide) (65536 + σ kR_planMany 32)
  exact wp_some ⟨hσ_7, frσ_7, nfσ_7, (by (try dsimp only) <;> first | assumption | omega | ((try simp (disch := omega) only [w32_of, w64_of, w8_of]) <;> first | assumption | omega | (split <;> omega) | (refine And.intro ?_ ?_ <;> split <;> omega)) | omega), (by (try dsimp only) <;> (rw [eσ_7, sg_nc (by decide), eσ_3, ← e_x_1, sg_at])), (by (try dsimp only) <;> (intro i hi; simp (disch := first | decide | omega) only [eσ_7, eσ_3, sg_at, sg_nc, sg_ni]))⟩
theorem v_more {σ : SG} {number_0 : Int} (hσ : II σ) (qnumber_0 : (-1) ≤ number_0 ∧ number_0 ≤ 2048) (w0 : 0 ≤ number_0 ∧ number_0 ≤ 2047) : wp_ (fR_more σ number_0) (fun zz_ => II zz_ ∧ FR [kR_plan] σ zz_ ∧ NF σ zz_ ∧ (zz_ kR_plan (65536 + number_0) = σ kR_plan (65536 + number_0) + 1) ∧ (∀ i, i ≠ 65536 + number_0 → zz_ kR_plan i = σ kR_plan i)) := by
  unfold fR_more
  have c1 := w32_rng (65536 + number_0)
  refine wp_rdI (by (try dsimp only) <;> first | assumption | omega | ((try simp (disch := omega) only [w32_of, w64_of, w8_of]) <;> first | assumption | omega | (split <;> omega) | (refine And.intro ?_ ?_ <;> split <;> omega)) | omega) (by (try dsimp only) <;> first | assumption | omega | ((try simp (disch := omega) only [w32_of, w64_of, w8_of]) <;> first | assumption | omega | (split <;> omega) | (refine And.intro ?_ ?_ <;> split <;> omega)) | omega) (fun x_1 e_x_1 => ?_)
  try simp (disch := omega) only [w32_of, w64_of, w8_of] at e_x_1
  refine wp_waN hσ b_kR_plan (by (try dsimp only) <;> first | assumption | omega | ((try simp (disch := omega) only [w32_of, w64_of, w8_of]) <;> first | assumption | omega | (split <;> omega) | (refine And.intro ?_ ?_ <;> split <;> omega)) | omega) (by (try dsimp only) <;> first | assumption | omega | ((try simp (disch := omega) only [w32_of, w64_of, w8_of]) <;> first | assumption | omega | (split <;> omega) | (refine And.intro ?_ ?_ <;> split <;> omega)) | omega) (fun σ_3 hσ_3 eσ_3 => ?_)
  try simp (disch := omega) only [w32_of, w64_of, w8_of] at eσ_3
  have flσ_3 := FR_sg eσ_3
  have frσ_3 : FR [kR_plan] σ σ_3 := FR_le flσ_3 (by decide)
  have nfσ_3 : NF σ σ_3 := NF_tr (NF_refl _) (NF_plan eσ_3 (by (try dsimp only) <;> first | assumption | omega | ((try simp (disch := omega) only [w32_of, w64_of, w8_of]) <;> first | assumption | omega | (split <;> omega) | (refine And.intro ?_ ?_ <;> split <;> omega)) | omega))
  have c2 := sg_val eσ_3
  exact wp_some ⟨hσ_3, frσ_3, nfσ_3, (by (try dsimp only) <;> (rw [eσ_3, sg_at, e_x_1])), (by (try dsimp only) <;> (intro i hi; rw [eσ_3, sg_ni hi]))⟩
theorem v_pair {σ : SG} {kind_0 : Int} (hσ : II σ) (w0 : σ kR_at 0 ≤ σ kR_size 0) : wp_ (fR_pair σ kind_0) (fun zz_ => II zz_.2 ∧ FR [kR_at, kR_faultKind, kR_faultPlace, kR_plan, kR_planMany] σ zz_.2 ∧ NF σ zz_.2 ∧ (σ kR_at 0 ≤ zz_.2 kR_at 0) ∧ (zz_.2 kR_at 0 ≤ σ kR_size 0) ∧ ((zz_.1 = true) → zz_.2 kR_planMany 32 = σ kR_planMany 32 + 2) ∧ ((zz_.1 = true) → zz_.2 kR_plan (65536 + σ kR_planMany 32) = kind_0) ∧ ((zz_.1 = true) → zz_.2 kR_plan (65536 + σ kR_planMany 32 + 1) = 0) ∧ (∀ i, i < 65536 + σ kR_planMany 32 → zz_.2 kR_plan i = σ kR_plan i)) := by
  unfold fR_pair
  have c1 := ii_kR_at hσ 0
  have c2 := ii_kR_size hσ 0
  refine wp_bd (v_skip (σ := σ) hσ (by (try dsimp only) <;> first | assumption | omega | ((try simp (disch := omega) only [w32_of, w64_of, w8_of]) <;> first | assumption | omega | (split <;> omega) | (refine And.intro ?_ ?_ <;> split <;> omega)) | omega)) ?_
  rintro σ_2 - ⟨hσ_2, flσ_2, g3, g4⟩
  have frσ_2 : FR [kR_at, kR_faultKind, kR_faultPlace, kR_plan, kR_planMany] σ σ_2 := FR_le flσ_2 (by decide)
  have nfσ_2 : NF σ σ_2 := NF_fr (NF_refl _) flσ_2 (by decide)
  have c5 := ii_kR_at hσ_2 0
  try simp (disch := omega) only [w32_of, w64_of, w8_of] at g3
  try simp (disch := omega) only [w32_of, w64_of, w8_of] at g4
  refine wp_rdI (by (try dsimp only) <;> first | assumption | omega | ((try simp (disch := omega) only [w32_of, w64_of, w8_of]) <;> first | assumption | omega | (split <;> omega) | (refine And.intro ?_ ?_ <;> split <;> omega)) | omega) (by (try dsimp only) <;> first | assumption | omega | ((try simp (disch := omega) only [w32_of, w64_of, w8_of]) <;> first | assumption | omega | (split <;> omega) | (refine And.intro ?_ ?_ <;> split <;> omega)) | omega) (fun x_3 e_x_3 => ?_)
  have b_x_3 : 0 ≤ x_3 ∧ x_3 ≤ 2048 := by rw [e_x_3]; exact ii_kR_planMany hσ_2 _
  try simp (disch := omega) only [w32_of, w64_of, w8_of] at e_x_3
  have c6 := ii_kR_planMany hσ_2 32
  have c7 := FR_at flσ_2 (c := kR_planMany) (by decide) 32
  have c8 := ii_kR_planMany hσ 32
  have c10 := w32_rng (x_3 + 2)
  refine wp_if (fun c9 => ?_) (fun c9 => ?_)
  · try simp (disch := omega) only [w32_of, w64_of, w8_of, decide_eq_true_eq, decide_eq_false_iff_not, Bool.not_eq_true] at c9
    refine wp_bd (v_wrong (σ := σ_2) (kind_0 := 7) (where_0 := (σ_2 kR_at 0)) hσ_2 (by (try dsimp only) <;> first | assumption | omega | ((try simp (disch := omega) only [w32_of, w64_of, w8_of]) <;> first | assumption | omega | (split <;> omega) | (refine And.intro ?_ ?_ <;> split <;> omega)) | omega) (by (try dsimp only) <;> first | assumption | omega | ((try simp (disch := omega) only [w32_of, w64_of, w8_of]) <;> first | assumption | omega | (split <;> omega) | (refine And.intro ?_ ?_ <;> split <;> omega)) | omega)) ?_
    rintro ⟨x_8, σ_7⟩ - y12
    try dsimp only at y12 ⊢
    obtain ⟨hσ_7, flσ_7, g11⟩ := y12
    have frσ_7 : FR [kR_at, kR_faultKind, kR_faultPlace, kR_plan, kR_planMany] σ σ_7 := FR_tr frσ_2 flσ_7 (by decide) (by decide)
    have nfσ_7 : NF σ σ_7 := NF_fr nfσ_2 flσ_7 (by decide)
    try simp (disch := omega) only [w32_of, w64_of, w8_of] at g11
    have c13 := ii_kR_at hσ_7 0
    have c14 := FR_at flσ_7 (c := kR_at) (by decide) 0
    have c15 := ii_kR_planMany hσ_7 32
    have c16 := FR_at flσ_7 (c := kR_planMany) (by decide) 32
    have c17 := FR_at flσ_7 (c := kR_plan) (by decide) (65536 + σ kR_planMany 32)
    have c18 := FR_at flσ_2 (c := kR_plan) (by decide) (65536 + σ kR_planMany 32)
    have c19 := FR_at flσ_7 (c := kR_plan) (by decide) (65536 + σ kR_planMany 32 + 1)
    have c20 := FR_at flσ_2 (c := kR_plan) (by decide) (65536 + σ kR_planMany 32 + 1)
    exact wp_some ⟨hσ_7, frσ_7, nfσ_7, (by (try dsimp only) <;> first | assumption | omega | ((try simp (disch := omega) only [w32_of, w64_of, w8_of]) <;> first | assumption | omega | (split <;> omega) | (refine And.intro ?_ ?_ <;> split <;> omega)) | omega), (by (try dsimp only) <;> first | assumption | omega | ((try simp (disch := omega) only [w32_of, w64_of, w8_of]) <;> first | assumption | omega | (split <;> omega) | (refine And.intro ?_ ?_ <;> split <;> omega)) | omega), (fun q => absurd (q.symm.trans g11) (by decide)), (fun q => absurd (q.symm.trans g11) (by decide)), (fun q => absurd (q.symm.trans g11) (by decide)), (by (try dsimp only) <;> (first | exact fun i hi => FR_at flσ_7x (by decide) i | (intro i hi; rw [tb3 i (by omega), ta3 i (by omega), FR_at flσ_2 (c := kR_plan) (by decide)]) | (intro i hi; rw [FR_at flσ_7 (c := kR_plan) (by decide), FR_at flσ_2 (c := kR_plan) (by decide)])))⟩
  · try simp (disch := omega) only [w32_of, w64_of, w8_of, decide_eq_true_eq, decide_eq_false_iff_not, Bool.not_eq_true] at c9
    refine wp_bd (v_tell (σ := σ_2) (v_0 := kind_0) hσ_2 (by (try dsimp only) <;> first | assumption | omega | ((try simp (disch := omega) only [w32_of, w64_of, w8_of]) <;> first | assumption | omega | (split <;> omega) | (refine And.intro ?_ ?_ <;> split <;> omega)) | omega)) ?_
    rintro σ_10 - ⟨hσ_10, flσ_10, ngσ_10, tb1, tb2, tb3⟩
    have frσ_10 : FR [kR_at, kR_faultKind, kR_faultPlace, kR_plan, kR_planMany] σ σ_10 := FR_tr frσ_2 flσ_10 (by decide) (by decide)
    have nfσ_10 : NF σ σ_10 := NF_tr nfσ_2 ngσ_10
    have c21 := ii_kR_planMany hσ_10 32
    try simp (disch := omega) only [w32_of, w64_of, w8_of] at tb1
    try simp (disch := omega) only [w32_of, w64_of, w8_of] at tb2
    try simp (disch := omega) only [w32_of, w64_of, w8_of] at tb3
    have ta1 := tb1
    have ta2 := tb2
    have ta3 := tb3
    have hm2 := FR_at flσ_2 (c := kR_planMany) (by decide) 32
    refine wp_bd (v_tell (σ := σ_10) (v_0 := 0) hσ_10 (by (try dsimp only) <;> first | assumption | omega | ((try simp (disch := omega) only [w32_of, w64_of, w8_of]) <;> first | assumption | omega | (split <;> omega) | (refine And.intro ?_ ?_ <;> split <;> omega)) | omega)) ?_
    rintro σ_12 - ⟨hσ_12, flσ_12, ngσ_12, tb1, tb2, tb3⟩
    have frσ_12 : FR [kR_at, kR_faultKind, kR_faultPlace, kR_plan, kR_planMany] σ σ_12 := FR_tr frσ_10 flσ_12 (by decide) (by decide)
    have nfσ_12 : NF σ σ_12 := NF_tr nfσ_10 ngσ_12
    have c22 := ii_kR_planMany hσ_12 32
    try simp (disch := omega) only [w32_of, w64_of, w8_of] at tb1
    try simp (disch := omega) only [w32_of, w64_of, w8_of] at tb2
    try simp (disch := omega) only [w32_of, w64_of, w8_of] at tb3
    have tc1 : σ_12 kR_plan (65536 + σ kR_planMany 32) = kind_0 := by rw [tb3 _ (by omega), ← hm2]; exact ta2
    have tc2 : σ_12 kR_plan (65536 + σ kR_planMany 32 + 1) = 0 := by rw [show 65536 + σ kR_planMany 32 + 1 = 65536 + σ_10 kR_planMany 32 by omega]; exact tb2
    have c23 := ii_kR_at hσ_12 0
    have c24 := FR_at flσ_12 (c := kR_at) (by decide) 0
    have c25 := ii_kR_at hσ_10 0
    have c26 := FR_at flσ_10 (c := kR_at) (by decide) 0
    exact wp_some ⟨hσ_12, frσ_12, nfσ_12, (by (try dsimp only) <;> first | assumption | omega | ((try simp (disch := omega) only [w32_of, w64_of, w8_of]) <;> first | assumption | omega | (split <;> omega) | (refine And.intro ?_ ?_ <;> split <;> omega)) | omega), (by (try dsimp only) <;> first | assumption | omega | ((try simp (disch := omega) only [w32_of, w64_of, w8_of]) <;> first | assumption | omega | (split <;> omega) | (refine And.intro ?_ ?_ <;> split <;> omega)) | omega), (by intro q9; (try dsimp only) <;> first | assumption | omega | ((try simp (disch := omega) only [w32_of, w64_of, w8_of]) <;> first | assumption | omega | (split <;> omega) | (refine And.intro ?_ ?_ <;> split <;> omega)) | omega), (by intro q9; (try dsimp only) <;> first | assumption | omega | ((try simp (disch := omega) only [w32_of, w64_of, w8_of]) <;> first | assumption | omega | (split <;> omega) | (refine And.intro ?_ ?_ <;> split <;> omega)) | omega), (by intro q9; (try dsimp only) <;> first | assumption | omega | ((try simp (disch := omega) only [w32_of, w64_of, w8_of]) <;> first | assumption | omega | (split <;> omega) | (refine And.intro ?_ ?_ <;> split <;> omega)) | omega), (by (try dsimp only) <;> (first | exact fun i hi => FR_at flσ_7x (by decide) i | (intro i hi; rw [tb3 i (by omega), ta3 i (by omega), FR_at flσ_2 (c := kR_plan) (by decide)]) | (intro i hi; rw [FR_at flσ_7 (c := kR_plan) (by decide), FR_at flσ_2 (c := kR_plan) (by decide)])))⟩
theorem v_closes {σ : SG} (hσ : II σ) (w0 : σ kR_at 0 ≤ σ kR_size 0) : wp_ (fR_closes σ) (fun zz_ => II zz_.2 ∧ FR [kR_at, kR_faultKind, kR_faultPlace] σ zz_.2 ∧ (σ kR_at 0 ≤ zz_.2 kR_at 0) ∧ (zz_.2 kR_at 0 ≤ σ kR_size 0) ∧ ((zz_.1 = true) → σ kR_at 0 < zz_.2 kR_at 0)) := by
  unfold fR_closes
  have c1 := ii_kR_at hσ 0
  have c2 := ii_kR_size hσ 0
  refine wp_bd (v_skip (σ := σ) hσ (by (try dsimp only) <;> first | assumption | omega | ((try simp (disch := omega) only [w32_of, w64_of, w8_of]) <;> first | assumption | omega | (split <;> omega) | (refine And.intro ?_ ?_ <;> split <;> omega)) | omega)) ?_
  rintro σ_2 - ⟨hσ_2, flσ_2, g3, g4⟩
  have frσ_2 : FR [kR_at, kR_faultKind, kR_faultPlace] σ σ_2 := FR_le flσ_2 (by decide)
  have c5 := ii_kR_at hσ_2 0
  try simp (disch := omega) only [w32_of, w64_of, w8_of] at g3
  try simp (disch := omega) only [w32_of, w64_of, w8_of] at g4
  refine wp_bd (v_here (σ := σ_2) hσ_2) ?_
  rintro x_4 - ⟨g6, g7, g8⟩
  try simp (disch := omega) only [w32_of, w64_of, w8_of] at g6
  try simp (disch := omega) only [w32_of, w64_of, w8_of] at g7
  have c9 := ii_kR_size hσ_2 0
  have c10 := FR_at flσ_2 (c := kR_size) (by decide) 0
  try simp (disch := omega) only [w32_of, w64_of, w8_of] at g8
  have c12 := w32_rng x_4
  refine wp_if (fun c11 => ?_) (fun c11 => ?_)
  · try simp (disch := omega) only [w32_of, w64_of, w8_of, decide_eq_true_eq, decide_eq_false_iff_not, Bool.not_eq_true] at c11
    refine wp_bd (v_strange (σ := σ_2) (word_0 := false) hσ_2) ?_
    rintro ⟨x_8, σ_7⟩ - y14
    try dsimp only at y14 ⊢
    obtain ⟨hσ_7, flσ_7, g13⟩ := y14
    have frσ_7 : FR [kR_at, kR_faultKind, kR_faultPlace] σ σ_7 := FR_tr frσ_2 flσ_7 (by decide) (by decide)
    try simp (disch := omega) only [w32_of, w64_of, w8_of] at g13
    have c15 := ii_kR_at hσ_7 0
    have c16 := FR_at flσ_7 (c := kR_at) (by decide) 0
    exact wp_some ⟨hσ_7, frσ_7, (by (try dsimp only) <;> first | assumption | omega | ((try simp (disch := omega) only [w32_of, w64_of, w8_of]) <;> first | assumption | omega | (split <;> omega) | (refine And.intro ?_ ?_ <;> split <;> omega)) | omega), (by (try dsimp only) <;> first | assumption | omega | ((try simp (disch := omega) only [w32_of, w64_of, w8_of]) <;> first | assumption | omega | (split <;> omega) | (refine And.intro ?_ ?_ <;> split <;> omega)) | omega), (fun q => absurd (q.symm.trans g13) (by decide))⟩
  · try simp (disch := omega) only [w32_of, w64_of, w8_of, decide_eq_true_eq, decide_eq_false_iff_not, Bool.not_eq_true] at c11
    refine wp_wfI hσ_2 b_kR_at (by (try dsimp only) <;> first | assumption | omega | ((try simp (disch := omega) only [w32_of, w64_of, w8_of]) <;> first | assumption | omega | (split <;> omega) | (refine And.intro ?_ ?_ <;> split <;> omega)) | omega) (fun σ_9 hσ_9 eσ_9 => ?_)
    try simp (disch := omega) only [w32_of, w64_of, w8_of] at eσ_9
    have flσ_9 := FR_sg eσ_9
    have frσ_9 : FR [kR_at, kR_faultKind, kR_faultPlace] σ σ_9 := FR_tr frσ_2 flσ_9 (by decide) (by decide)
    have c17 := ii_kR_at hσ_9 0
    have c18 := sg_val eσ_9
    exact wp_some ⟨hσ_9, frσ_9, (by (try dsimp only) <;> first | assumption | omega | ((try simp (disch := omega) only [w32_of, w64_of, w8_of]) <;> first | assumption | omega | (split <;> omega) | (refine And.intro ?_ ?_ <;> split <;> omega)) | omega), (by (try dsimp only) <;> first | assumption | omega | ((try simp (disch := omega) only [w32_of, w64_of, w8_of]) <;> first | assumption | omega | (split <;> omega) | (refine And.intro ?_ ?_ <;> split <;> omega)) | omega), (by intro q9; (try dsimp only) <;> first | assumption | omega | ((try simp (disch := omega) only [w32_of, w64_of, w8_of]) <;> first | assumption | omega | (split <;> omega) | (refine And.intro ?_ ?_ <;> split <;> omega)) | omega)⟩
theorem v_goesOn {σ : SG} (hσ : II σ) (w0 : σ kR_at 0 ≤ σ kR_size 0) : wp_ (fR_goesOn σ) (fun zz_ => ((-1) ≤ zz_.1 ∧ zz_.1 ≤ 1) ∧ II zz_.2 ∧ FR [kR_at, kR_faultKind, kR_faultPlace] σ zz_.2 ∧ (σ kR_at 0 ≤ zz_.2 kR_at 0) ∧ (zz_.2 kR_at 0 ≤ σ kR_size 0) ∧ (zz_.1 = (-1) ∨ σ kR_at 0 < zz_.2 kR_at 0)) := by
  unfold fR_goesOn
  have c1 := ii_kR_at hσ 0
  have c2 := ii_kR_size hσ 0
  refine wp_bd (v_skip (σ := σ) hσ (by (try dsimp only) <;> first | assumption | omega | ((try simp (disch := omega) only [w32_of, w64_of, w8_of]) <;> first | assumption | omega | (split <;> omega) | (refine And.intro ?_ ?_ <;> split <;> omega)) | omega)) ?_
  rintro σ_2 - ⟨hσ_2, flσ_2, g3, g4⟩
  have frσ_2 : FR [kR_at, kR_faultKind, kR_faultPlace] σ σ_2 := FR_le flσ_2 (by decide)
  have c5 := ii_kR_at hσ_2 0
  try simp (disch := omega) only [w32_of, w64_of, w8_of] at g3
  try simp (disch := omega) only [w32_of, w64_of, w8_of] at g4
  refine wp_bd (v_here (σ := σ_2) hσ_2) ?_
  rintro x_4 - ⟨g6, g7, g8⟩
  try simp (disch := omega) only [w32_of, w64_of, w8_of] at g6
  try simp (disch := omega) only [w32_of, w64_of, w8_of] at g7
  have c9 := ii_kR_size hσ_2 0
  have c10 := FR_at flσ_2 (c := kR_size) (by decide) 0
  try simp (disch := omega) only [w32_of, w64_of, w8_of] at g8
  have c12 := w32_rng x_4
  refine wp_if (fun c11 => ?_) (fun c11 => ?_)
  · try simp (disch := omega) only [w32_of, w64_of, w8_of, decide_eq_true_eq, decide_eq_false_iff_not, Bool.not_eq_true] at c11
    refine wp_bd (v_strange (σ := σ_2) (word_0 := false) hσ_2) ?_
    rintro ⟨x_7, σ_6⟩ - y14
    try dsimp only at y14 ⊢
    obtain ⟨hσ_6, flσ_6, g13⟩ := y14
    have frσ_6 : FR [kR_at, kR_faultKind, kR_faultPlace] σ σ_6 := FR_tr frσ_2 flσ_6 (by decide) (by decide)
    try simp (disch := omega) only [w32_of, w64_of, w8_of] at g13
    have c15 := ii_kR_at hσ_6 0
    have c16 := FR_at flσ_6 (c := kR_at) (by decide) 0
    exact wp_some ⟨(by (try dsimp only) <;> first | assumption | omega | ((try simp (disch := omega) only [w32_of, w64_of, w8_of]) <;> first | assumption | omega | (split <;> omega) | (refine And.intro ?_ ?_ <;> split <;> omega)) | omega), hσ_6, frσ_6, (by (try dsimp only) <;> first | assumption | omega | ((try simp (disch := omega) only [w32_of, w64_of, w8_of]) <;> first | assumption | omega | (split <;> omega) | (refine And.intro ?_ ?_ <;> split <;> omega)) | omega), (by (try dsimp only) <;> first | assumption | omega | ((try simp (disch := omega) only [w32_of, w64_of, w8_of]) <;> first | assumption | omega | (split <;> omega) | (refine And.intro ?_ ?_ <;> split <;> omega)) | omega), (by (try dsimp only) <;> first | assumption | omega | ((try simp (disch := omega) only [w32_of, w64_of, w8_of]) <;> first | assumption | omega | (split <;> omega) | (refine And.intro ?_ ?_ <;> split <;> omega)) | omega)⟩
  · try simp (disch := omega) only [w32_of, w64_of, w8_of, decide_eq_true_eq, decide_eq_false_iff_not, Bool.not_eq_true] at c11
    refine wp_wfI hσ_2 b_kR_at (by (try dsimp only) <;> first | assumption | omega | ((try simp (disch := omega) only [w32_of, w64_of, w8_of]) <;> first | assumption | omega | (split <;> omega) | (refine And.intro ?_ ?_ <;> split <;> omega)) | omega) (fun σ_8 hσ_8 eσ_8 => ?_)
    try simp (disch := omega) only [w32_of, w64_of, w8_of] at eσ_8
    have flσ_8 := FR_sg eσ_8
    have frσ_8 : FR [kR_at, kR_faultKind, kR_faultPlace] σ σ_8 := FR_tr frσ_2 flσ_8 (by decide) (by decide)
    have c17 := ii_kR_at hσ_8 0
    have c18 := sg_val eσ_8
    exact wp_some ⟨(by (try dsimp only) <;> first | assumption | omega | ((try simp (disch := omega) only [w32_of, w64_of, w8_of]) <;> first | assumption | omega | (split <;> omega) | (refine And.intro ?_ ?_ <;> split <;> omega)) | omega), hσ_8, frσ_8, (by (try dsimp only) <;> first | assumption | omega | ((try simp (disch := omega) only [w32_of, w64_of, w8_of]) <;> first | assumption | omega | (split <;> omega) | (refine And.intro ?_ ?_ <;> split <;> omega)) | omega), (by (try dsimp only) <;> first | assumption | omega | ((try simp (disch := omega) only [w32_of, w64_of, w8_of]) <;> first | assumption | omega | (split <;> omega) | (refine And.intro ?_ ?_ <;> split <;> omega)) | omega), (by (try dsimp only) <;> first | assumption | omega | ((try simp (disch := omega) only [w32_of, w64_of, w8_of]) <;> first | assumption | omega | (split <;> omega) | (refine And.intro ?_ ?_ <;> split <;> omega)) | omega)⟩
theorem v_round {σ : SG} {ahead_0 : Int} (hσ : II σ) (w0 : DG σ (σ kR_numberFrom 0) (σ kR_numberTo 0)) : wp_ (fR_round σ ahead_0) (fun zz_ => II zz_ ∧ FR [kR_value] σ zz_ ∧ (0 ≤ zz_ kR_value 0 ∧ zz_ kR_value 0 ≤ 40000000100)) := by
  unfold fR_round
  have c1 := ii_kR_numberFrom hσ 0
  have c2 := ii_kR_numberTo hσ 0
  refine wp_bd (P := fun rr_ => ((-256) ≤ rr_.2.2.1 ∧ rr_.2.2.1 ≤ 127) ∧ (0 ≤ rr_.2.2.2.2 ∧ rr_.2.2.2.2 ≤ 65536) ∧ (0 ≤ rr_.1 ∧ rr_.1 ≤ 40000000000) ∧ (0 ≤ rr_.2.1 ∧ rr_.2.1 ≤ 65536)) ?_ ?_
  · refine wp_whl (fun ss_ => ((-256) ≤ ss_.2.2.1 ∧ ss_.2.2.1 ≤ 127) ∧ (0 ≤ ss_.2.2.2.2 ∧ ss_.2.2.2.2 ≤ 65536) ∧ (0 ≤ ss_.1 ∧ ss_.1 ≤ 40000000000) ∧ (0 ≤ ss_.2.1 ∧ ss_.2.1 ≤ ss_.2.2.2.2) ∧ (σ kR_numberFrom 0 ≤ ss_.2.2.2.2)) (fun ss_ => (65537 - ss_.2.2.2.2).toNat) ⟨(by (try dsimp only) <;> first | assumption | omega | ((try simp (disch := omega) only [w32_of, w64_of, w8_of]) <;> first | assumption | omega | (split <;> omega) | (refine And.intro ?_ ?_ <;> split <;> omega)) | omega), (by (try dsimp only) <;> first | assumption | omega | ((try simp (disch := omega) only [w32_of, w64_of, w8_of]) <;> first | assumption | omega | (split <;> omega) | (refine And.intro ?_ ?_ <;> split <;> omega)) | omega), (by (try dsimp only) <;> first | assumption | omega | ((try simp (disch := omega) only [w32_of, w64_of, w8_of]) <;> first | assumption | omega | (split <;> omega) | (refine And.intro ?_ ?_ <;> split <;> omega)) | omega), (by (try dsimp only) <;> first | assumption | omega | ((try simp (disch := omega) only [w32_of, w64_of, w8_of]) <;> first | assumption | omega | (split <;> omega) | (refine And.intro ?_ ?_ <;> split <;> omega)) | omega), (by (try dsimp only) <;> first | assumption | omega | ((try simp (disch := omega) only [w32_of, w64_of, w8_of]) <;> first | assumption | omega | (split <;> omega) | (refine And.intro ?_ ?_ <;> split <;> omega)) | omega)⟩ ?_
    rintro ⟨v_1, k_2, first_3, rest_4, i_5⟩ y8
    try dsimp only at y8 ⊢
    obtain ⟨g3, g4, g5, g6, g7⟩ := y8
    have c10 := w32_rng i_5
    have c11 := w32_rng (σ kR_numberTo 0)
    refine wp_if (fun c9 => ?_) (fun c9 => ?_)
    · try simp (disch := omega) only [w32_of, w64_of, w8_of, decide_eq_true_eq, decide_eq_false_iff_not, Bool.not_eq_true] at c9
      refine wp_rdI (by (try dsimp only) <;> first | assumption | omega | ((try simp (disch := omega) only [w32_of, w64_of, w8_of]) <;> first | assumption | omega | (split <;> omega) | (refine And.intro ?_ ?_ <;> split <;> omega)) | omega) (by (try dsimp only) <;> first | assumption | omega | ((try simp (disch := omega) only [w32_of, w64_of, w8_of]) <;> first | assumption | omega | (split <;> omega) | (refine And.intro ?_ ?_ <;> split <;> omega)) | omega) (fun x_14 e_x_14 => ?_)
      have b_x_14 : (-128) ≤ x_14 ∧ x_14 ≤ 127 := by rw [e_x_14]; exact ii_kR_tape hσ _
      try simp (disch := omega) only [w32_of, w64_of, w8_of] at e_x_14
      have c12 := ii_kR_tape hσ i_5
      have hdg0 := w0 i_5 (by omega) (by omega)
      have c14 := w8_rng x_14
      have c15 := w32_rng (w8 x_14)
      refine wp_if (fun c13 => ?_) (fun c13 => ?_)
      · try simp (disch := omega) only [w32_of, w64_of, w8_of, decide_eq_true_eq, decide_eq_false_iff_not, Bool.not_eq_true] at c13
        exact wp_some (x_inl ⟨⟨(by (try dsimp only) <;> first | assumption | omega | ((try simp (disch := omega) only [w32_of, w64_of, w8_of]) <;> first | assumption | omega | (split <;> omega) | (refine And.intro ?_ ?_ <;> split <;> omega)) | omega), (by (try dsimp only) <;> first | assumption | omega | ((try simp (disch := omega) only [w32_of, w64_of, w8_of]) <;> first | assumption | omega | (split <;> omega) | (refine And.intro ?_ ?_ <;> split <;> omega)) | omega), (by (try dsimp only) <;> first | assumption | omega | ((try simp (disch := omega) only [w32_of, w64_of, w8_of]) <;> first | assumption | omega | (split <;> omega) | (refine And.intro ?_ ?_ <;> split <;> omega)) | omega), (by (try dsimp only) <;> first | assumption | omega | ((try simp (disch := omega) only [w32_of, w64_of, w8_of]) <;> first | assumption | omega | (split <;> omega) | (refine And.intro ?_ ?_ <;> split <;> omega)) | omega), (by (try dsimp only) <;> first | assumption | omega | ((try simp (disch := omega) only [w32_of, w64_of, w8_of]) <;> first | assumption | omega | (split <;> omega) | (refine And.intro ?_ ?_ <;> split <;> omega)) | omega)⟩, (by (try dsimp only) <;> first | assumption | omega | ((try simp (disch := omega) only [w32_of, w64_of, w8_of]) <;> first | assumption | omega | (split <;> omega) | (refine And.intro ?_ ?_ <;> split <;> omega)) | omega)⟩)
      · try simp (disch := omega) only [w32_of, w64_of, w8_of, decide_eq_true_eq, decide_eq_false_iff_not, Bool.not_eq_true] at c13
        refine wp_rdI (by (try dsimp only) <;> first | assumption | omega | ((try simp (disch := omega) only [w32_of, w64_of, w8_of]) <;> first | assumption | omega | (split <;> omega) | (refine And.intro ?_ ?_ <;> split <;> omega)) | omega) (by (try dsimp only) <;> first | assumption | omega | ((try simp (disch := omega) only [w32_of, w64_of, w8_of]) <;> first | assumption | omega | (split <;> omega) | (refine And.intro ?_ ?_ <;> split <;> omega)) | omega) (fun x_18 e_x_18 => ?_)
        have b_x_18 : (-128) ≤ x_18 ∧ x_18 ≤ 127 := by rw [e_x_18]; exact ii_kR_tape hσ _
        try simp (disch := omega) only [w32_of, w64_of, w8_of] at e_x_18
        have hdg := w0 i_5 (by omega) (by omega)
        refine wp_bd (P := fun rr_ => ((-256) ≤ rr_.2.1 ∧ rr_.2.1 ≤ 127) ∧ (0 ≤ rr_.1 ∧ rr_.1 ≤ 40000000000)) ?_ ?_
        · have c17 := w64_rng k_2
          have c18 := w64_rng ahead_0
          refine wp_if (fun c16 => ?_) (fun c16 => ?_)
          · try simp (disch := omega) only [w32_of, w64_of, w8_of, decide_eq_true_eq, decide_eq_false_iff_not, Bool.not_eq_true] at c16
            have c19 := w64_rng v_1
            have c20 := w8_rng x_18
            have c21 := w32_rng ((w8 x_18) - 48)
            refine wp_lt (fun x_26 e_x_26 => ?_)
            try simp (disch := omega) only [w32_of, w64_of, w8_of] at e_x_26
            have hx26 : 0 ≤ x_26 ∧ x_26 ≤ 40000000000 := by rw [e_x_26]; split <;> omega
            exact wp_some ⟨(by (try dsimp only) <;> first | assumption | omega | ((try simp (disch := omega) only [w32_of, w64_of, w8_of]) <;> first | assumption | omega | (split <;> omega) | (refine And.intro ?_ ?_ <;> split <;> omega)) | omega), (by (try dsimp only) <;> first | assumption | omega | ((try simp (disch := omega) only [w32_of, w64_of, w8_of]) <;> first | assumption | omega | (split <;> omega) | (refine And.intro ?_ ?_ <;> split <;> omega)) | omega)⟩
          · try simp (disch := omega) only [w32_of, w64_of, w8_of, decide_eq_true_eq, decide_eq_false_iff_not, Bool.not_eq_true] at c16
            refine wp_bdk ?_
            refine wp_if (fun c22 => ?_) (fun c22 => ?_)
            · try simp (disch := omega) only [w32_of, w64_of, w8_of, decide_eq_true_eq, decide_eq_false_iff_not, Bool.not_eq_true] at c22
              refine wp_somek ?_
              try dsimp only
              have c23 := w8_rng x_18
              exact wp_some ⟨(by (try dsimp only) <;> first | assumption | omega | ((try simp (disch := omega) only [w32_of, w64_of, w8_of]) <;> first | assumption | omega | (split <;> omega) | (refine And.intro ?_ ?_ <;> split <;> omega)) | omega), (by (try dsimp only) <;> first | assumption | omega | ((try simp (disch := omega) only [w32_of, w64_of, w8_of]) <;> first | assumption | omega | (split <;> omega) | (refine And.intro ?_ ?_ <;> split <;> omega)) | omega)⟩
            · try simp (disch := omega) only [w32_of, w64_of, w8_of, decide_eq_true_eq, decide_eq_false_iff_not, Bool.not_eq_true] at c22
              have c24 := w8_rng x_18
              have c25 := w32_rng ((w8 x_18) - 48)
              refine wp_lt (fun x_36 e_x_36 => ?_)
              try simp (disch := omega) only [w32_of, w64_of, w8_of] at e_x_36
              refine wp_somek ?_
              try dsimp only
              exact wp_some ⟨(by (try dsimp only) <;> first | assumption | omega | ((try simp (disch := omega) only [w32_of, w64_of, w8_of]) <;> first | assumption | omega | (split <;> omega) | (refine And.intro ?_ ?_ <;> split <;> omega)) | omega), (by (try dsimp only) <;> first | assumption | omega | ((try simp (disch := omega) only [w32_of, w64_of, w8_of]) <;> first | assumption | omega | (split <;> omega) | (refine And.intro ?_ ?_ <;> split <;> omega)) | omega)⟩
        rintro ⟨v_44, first_45, rest_46⟩ _ y28
        try dsimp only at y28 ⊢
        obtain ⟨g26, g27⟩ := y28
        exact wp_some (x_inl ⟨⟨(by (try dsimp only) <;> first | assumption | omega | ((try simp (disch := omega) only [w32_of, w64_of, w8_of]) <;> first | assumption | omega | (split <;> omega) | (refine And.intro ?_ ?_ <;> split <;> omega)) | omega), (by (try dsimp only) <;> first | assumption | omega | ((try simp (disch := omega) only [w32_of, w64_of, w8_of]) <;> first | assumption | omega | (split <;> omega) | (refine And.intro ?_ ?_ <;> split <;> omega)) | omega), (by (try dsimp only) <;> first | assumption | omega | ((try simp (disch := omega) only [w32_of, w64_of, w8_of]) <;> first | assumption | omega | (split <;> omega) | (refine And.intro ?_ ?_ <;> split <;> omega)) | omega), (by (try dsimp only) <;> first | assumption | omega | ((try simp (disch := omega) only [w32_of, w64_of, w8_of]) <;> first | assumption | omega | (split <;> omega) | (refine And.intro ?_ ?_ <;> split <;> omega)) | omega), (by (try dsimp only) <;> first | assumption | omega | ((try simp (disch := omega) only [w32_of, w64_of, w8_of]) <;> first | assumption | omega | (split <;> omega) | (refine And.intro ?_ ?_ <;> split <;> omega)) | omega)⟩, (by (try dsimp only) <;> first | assumption | omega | ((try simp (disch := omega) only [w32_of, w64_of, w8_of]) <;> first | assumption | omega | (split <;> omega) | (refine And.intro ?_ ?_ <;> split <;> omega)) | omega)⟩)
    · try simp (disch := omega) only [w32_of, w64_of, w8_of, decide_eq_true_eq, decide_eq_false_iff_not, Bool.not_eq_true] at c9
      exact wp_some (x_inr ⟨(by (try dsimp only) <;> first | assumption | omega | ((try simp (disch := omega) only [w32_of, w64_of, w8_of]) <;> first | assumption | omega | (split <;> omega) | (refine And.intro ?_ ?_ <;> split <;> omega)) | omega), (by (try dsimp only) <;> first | assumption | omega | ((try simp (disch := omega) only [w32_of, w64_of, w8_of]) <;> first | assumption | omega | (split <;> omega) | (refine And.intro ?_ ?_ <;> split <;> omega)) | omega), (by (try dsimp only) <;> first | assumption | omega | ((try simp (disch := omega) only [w32_of, w64_of, w8_of]) <;> first | assumption | omega | (split <;> omega) | (refine And.intro ?_ ?_ <;> split <;> omega)) | omega), (by (try dsimp only) <;> first | assumption | omega | ((try simp (disch := omega) only [w32_of, w64_of, w8_of]) <;> first | assumption | omega | (split <;> omega) | (refine And.intro ?_ ?_ <;> split <;> omega)) | omega)⟩)
  rintro ⟨v_50, k_51, first_52, rest_53, i_54⟩ _ y33
  try dsimp only at y33 ⊢
  obtain ⟨g29, g30, g31, g32⟩ := y33
  refine wp_bd (P := fun rr_ => (0 ≤ rr_.1 ∧ rr_.1 ≤ 40000000000)) ?_ ?_
  · refine wp_whl (fun ss_ => (0 ≤ ss_.1 ∧ ss_.1 ≤ 40000000000) ∧ (0 ≤ ss_.2 ∧ ss_.2 ≤ 9223372036854775807)) (fun ss_ => (40000000001 - ss_.1).toNat) ⟨(by (try dsimp only) <;> first | assumption | omega | ((try simp (disch := omega) only [w32_of, w64_of, w8_of]) <;> first | assumption | omega | (split <;> omega) | (refine And.intro ?_ ?_ <;> split <;> omega)) | omega), (by (try dsimp only) <;> first | assumption | omega | ((try simp (disch := omega) only [w32_of, w64_of, w8_of]) <;> first | assumption | omega | (split <;> omega) | (refine And.intro ?_ ?_ <;> split <;> omega)) | omega)⟩ ?_
    rintro ⟨v_55, k_56⟩ y36
    try dsimp only at y36 ⊢
    obtain ⟨g34, g35⟩ := y36
    have c38 := w64_rng k_56
    have c39 := w64_rng ahead_0
    have c40 := w64_rng v_55
    refine wp_if (fun c37 => ?_) (fun c37 => ?_)
    · try simp (disch := omega) only [w32_of, w64_of, w8_of, decide_eq_true_eq, decide_eq_false_iff_not, Bool.not_eq_true] at c37
      exact wp_some (x_inl ⟨⟨(by (try dsimp only) <;> first | assumption | omega | ((try simp (disch := omega) only [w32_of, w64_of, w8_of]) <;> first | assumption | omega | (split <;> omega) | (refine And.intro ?_ ?_ <;> split <;> omega)) | omega), (by (try dsimp only) <;> first | assumption | omega | ((try simp (disch := omega) only [w32_of, w64_of, w8_of]) <;> first | assumption | omega | (split <;> omega) | (refine And.intro ?_ ?_ <;> split <;> omega)) | omega)⟩, (by (try dsimp only) <;> first | assumption | omega | ((try simp (disch := omega) only [w32_of, w64_of, w8_of]) <;> first | assumption | omega | (split <;> omega) | (refine And.intro ?_ ?_ <;> split <;> omega)) | omega)⟩)
    · try simp (disch := omega) only [w32_of, w64_of, w8_of, decide_eq_true_eq, decide_eq_false_iff_not, Bool.not_eq_true] at c37
      exact wp_some (x_inr (by (try dsimp only) <;> first | assumption | omega | ((try simp (disch := omega) only [w32_of, w64_of, w8_of]) <;> first | assumption | omega | (split <;> omega) | (refine And.intro ?_ ?_ <;> split <;> omega)) | omega))
  rintro ⟨v_75, k_76⟩ _ y42
  try dsimp only at y42 ⊢
  have g41 := y42
  have c43 := w32_rng first_52
  have c44 := q_lan_bd v_75 (m := 1) (by decide) (by decide)
  try simp (disch := omega) only [w32_of, w64_of, w8_of] at c44
  have c45 := w64_rng (q_lan v_75 1)
  refine wp_lt (fun x_78 e_x_78 => ?_)
  try simp (disch := omega) only [w32_of, w64_of, w8_of] at e_x_78
  refine wp_wfI hσ b_kR_value (by (try dsimp only) <;> first | assumption | omega | ((try simp (disch := omega) only [w32_of, w64_of, w8_of]) <;> first | assumption | omega | (split <;> omega) | (refine And.intro ?_ ?_ <;> split <;> omega)) | omega) (fun σ_80 hσ_80 eσ_80 => ?_)
  try simp (disch := omega) only [w32_of, w64_of, w8_of] at eσ_80
  have flσ_80 := FR_sg eσ_80
  have frσ_80 : FR [kR_value] σ σ_80 := FR_le flσ_80 (by decide)
  have c46 := ii_kR_value hσ_80 0
  have c47 := sg_val eσ_80
  exact wp_some ⟨hσ_80, frσ_80, (by (try dsimp only) <;> first | assumption | omega | ((try simp (disch := omega) only [w32_of, w64_of, w8_of]) <;> first | assumption | omega | (split <;> omega) | (refine And.intro ?_ ?_ <;> split <;> omega)) | omega)⟩
theorem v_number {σ : SG} (hσ : II σ) (w0 : σ kR_at 0 ≤ σ kR_size 0) : wp_ (fR_number σ) (fun zz_ => II zz_.2 ∧ FR [kR_at, kR_faultKind, kR_faultPlace, kR_numberFrom, kR_numberTo, kR_numberWhole, kR_value] σ zz_.2 ∧ (σ kR_at 0 ≤ zz_.2 kR_at 0) ∧ (zz_.2 kR_at 0 ≤ σ kR_size 0) ∧ ((zz_.1 = true) → ((-1000000000) ≤ zz_.2 kR_value 0 ∧ zz_.2 kR_value 0 ≤ 1000000000))) := by
  unfold fR_number
  have c1 := ii_kR_at hσ 0
  have c2 := ii_kR_size hσ 0
  refine wp_bd (v_here (σ := σ) hσ) ?_
  rintro x_2 - ⟨gr, gv, gw⟩
  try simp (disch := omega) only [w32_of, w64_of, w8_of] at gr
  try simp (disch := omega) only [w32_of, w64_of, w8_of] at gv
  try simp (disch := omega) only [w32_of, w64_of, w8_of] at gw
  have c4 := w32_rng x_2
  refine wp_if (fun c3 => ?_) (fun c3 => ?_)
  · try simp (disch := omega) only [w32_of, w64_of, w8_of, decide_eq_true_eq, decide_eq_false_iff_not, Bool.not_eq_true, fR_isDigit, fR_isSign] at c3
    refine wp_bd (v_strange (σ := σ) (word_0 := false) hσ) ?_
    rintro ⟨x_5, σ_4⟩ - y6
    try dsimp only at y6 ⊢
    obtain ⟨hσ_4, flσ_4, g5⟩ := y6
    have frσ_4 : FR [kR_at, kR_faultKind, kR_faultPlace, kR_numberFrom, kR_numberTo, kR_numberWhole, kR_value] σ σ_4 := FR_le flσ_4 (by decide)
    try simp (disch := omega) only [w32_of, w64_of, w8_of] at g5
    have c7 := ii_kR_at hσ_4 0
    have c8 := FR_at flσ_4 (c := kR_at) (by decide) 0
    have c9 := ii_kR_value hσ_4 0
    have c10 := FR_at flσ_4 (c := kR_value) (by decide) 0
    have c11 := ii_kR_value hσ 0
    exact wp_some ⟨hσ_4, frσ_4, (by (try dsimp only) <;> first | assumption | omega | ((try simp (disch := omega) only [w32_of, w64_of, w8_of]) <;> first | assumption | omega | (split <;> omega) | (refine And.intro ?_ ?_ <;> split <;> omega)) | omega), (by (try dsimp only) <;> first | assumption | omega | ((try simp (disch := omega) only [w32_of, w64_of, w8_of]) <;> first | assumption | omega | (split <;> omega) | (refine And.intro ?_ ?_ <;> split <;> omega)) | omega), (fun q => absurd (q.symm.trans g5) (by decide))⟩
  · try simp (disch := omega) only [w32_of, w64_of, w8_of, decide_eq_true_eq, decide_eq_false_iff_not, Bool.not_eq_true, fR_isDigit, fR_isSign] at c3
    refine wp_bd (P := fun rr_ => II rr_ ∧ FR [kR_at, kR_faultKind, kR_faultPlace, kR_numberFrom, kR_numberTo, kR_numberWhole, kR_value] σ rr_ ∧ (σ kR_at 0 ≤ rr_ kR_at 0) ∧ (rr_ kR_at 0 ≤ σ kR_size 0)) ?_ ?_
    · refine wp_if (fun c12 => ?_) (fun c12 => ?_)
      · try simp (disch := omega) only [w32_of, w64_of, w8_of, decide_eq_true_eq, decide_eq_false_iff_not, Bool.not_eq_true, fR_isSign] at c12
        refine wp_wfI hσ b_kR_at (by (try dsimp only) <;> first | assumption | omega | ((try simp (disch := omega) only [w32_of, w64_of, w8_of]) <;> first | assumption | omega | (split <;> omega) | (refine And.intro ?_ ?_ <;> split <;> omega)) | omega) (fun σ_11 hσ_11 eσ_11 => ?_)
        try simp (disch := omega) only [w32_of, w64_of, w8_of] at eσ_11
        have flσ_11 := FR_sg eσ_11
        have frσ_11 : FR [kR_at, kR_faultKind, kR_faultPlace, kR_numberFrom, kR_numberTo, kR_numberWhole, kR_value] σ σ_11 := FR_le flσ_11 (by decide)
        have c13 := ii_kR_at hσ_11 0
        have c14 := sg_val eσ_11
        exact wp_some ⟨hσ_11, frσ_11, (by (try dsimp only) <;> first | assumption | omega | ((try simp (disch := omega) only [w32_of, w64_of, w8_of]) <;> first | assumption | omega | (split <;> omega) | (refine And.intro ?_ ?_ <;> split <;> omega)) | omega), (by (try dsimp only) <;> first | assumption | omega | ((try simp (disch := omega) only [w32_of, w64_of, w8_of]) <;> first | assumption | omega | (split <;> omega) | (refine And.intro ?_ ?_ <;> split <;> omega)) | omega)⟩
      · try simp (disch := omega) only [w32_of, w64_of, w8_of, decide_eq_true_eq, decide_eq_false_iff_not, Bool.not_eq_true, fR_isSign] at c12
        exact wp_some ⟨hσ, (FR_refl _ _), (by (try dsimp only) <;> first | assumption | omega | ((try simp (disch := omega) only [w32_of, w64_of, w8_of]) <;> first | assumption | omega | (split <;> omega) | (refine And.intro ?_ ?_ <;> split <;> omega)) | omega), (by (try dsimp only) <;> first | assumption | omega | ((try simp (disch := omega) only [w32_of, w64_of, w8_of]) <;> first | assumption | omega | (split <;> omega) | (refine And.intro ?_ ?_ <;> split <;> omega)) | omega)⟩
    rintro σ_14 _ ⟨hσ_14, frσ_14, g15, g16⟩
    have c17 := ii_kR_at hσ_14 0
    refine wp_wfI hσ_14 b_kR_numberFrom (by (try dsimp only) <;> first | assumption | omega | ((try simp (disch := omega) only [w32_of, w64_of, w8_of]) <;> first | assumption | omega | (split <;> omega) | (refine And.intro ?_ ?_ <;> split <;> omega)) | omega) (fun σ_15 hσ_15 eσ_15 => ?_)
    try simp (disch := omega) only [w32_of, w64_of, w8_of] at eσ_15
    have flσ_15 := FR_sg eσ_15
    have frσ_15 : FR [kR_at, kR_faultKind, kR_faultPlace, kR_numberFrom, kR_numberTo, kR_numberWhole, kR_value] σ σ_15 := FR_tr frσ_14 flσ_15 (by decide) (by decide)
    have c18 := ii_kR_at hσ_15 0
    have c19 := FR_at flσ_15 (c := kR_at) (by decide) 0
    have c20 := ii_kR_size hσ_15 0
    have c21 := FR_at flσ_15 (c := kR_size) (by decide) 0
    have c22 := ii_kR_size hσ_14 0
    have c23 := FR_at frσ_14 (c := kR_size) (by decide) 0
    refine wp_bd (v_digitsOn (σ := σ_15) hσ_15 (by (try dsimp only) <;> first | assumption | omega | ((try simp (disch := omega) only [w32_of, w64_of, w8_of]) <;> first | assumption | omega | (split <;> omega) | (refine And.intro ?_ ?_ <;> split <;> omega)) | omega)) ?_
    rintro σ_17 - ⟨hσ_17, flσ_17, dm1, dm2, dgt⟩
    have frσ_17 : FR [kR_at, kR_faultKind, kR_faultPlace, kR_numberFrom, kR_numberTo, kR_numberWhole, kR_value] σ σ_17 := FR_tr frσ_15 flσ_17 (by decide) (by decide)
    have c24 := ii_kR_at hσ_17 0
    try simp (disch := omega) only [w32_of, w64_of, w8_of] at dm1
    try simp (disch := omega) only [w32_of, w64_of, w8_of] at dm2
    try simp (disch := omega) only [w32_of, w64_of, w8_of] at dgt
    have dg1 := dgt
    simp only [FR_at frσ_15 (c := kR_tape) (by decide)] at dg1
    have c25 := ii_kR_numberFrom hσ_17 0
    have c26 := FR_at flσ_17 (c := kR_numberFrom) (by decide) 0
    have c27 := ii_kR_numberFrom hσ_15 0
    have c28 := sg_val eσ_15
    refine wp_wfI hσ_17 b_kR_numberWhole (by (try dsimp only) <;> first | assumption | omega | ((try simp (disch := omega) only [w32_of, w64_of, w8_of]) <;> first | assumption | omega | (split <;> omega) | (refine And.intro ?_ ?_ <;> split <;> omega)) | omega) (fun σ_18 hσ_18 eσ_18 => ?_)
    try simp (disch := omega) only [w32_of, w64_of, w8_of] at eσ_18
    have flσ_18 := FR_sg eσ_18
    have frσ_18 : FR [kR_at, kR_faultKind, kR_faultPlace, kR_numberFrom, kR_numberTo, kR_numberWhole, kR_value] σ σ_18 := FR_tr frσ_17 flσ_18 (by decide) (by decide)
    have n1 : σ_18 kR_numberFrom 0 = σ_14 kR_at 0 := (FR_at flσ_18 (c := kR_numberFrom) (by decide) 0).trans ((FR_at flσ_17 (c := kR_numberFrom) (by decide) 0).trans (sg_val eσ_15))
    have n2 : σ_15 kR_at 0 = σ_14 kR_at 0 := by rw [eσ_15, sg_nc (by decide)]
    have n3 : σ_18 kR_at 0 = σ_17 kR_at 0 := FR_at flσ_18 (c := kR_at) (by decide) 0
    refine wp_bd (P := fun rr_ => ((-131074) ≤ rr_.1 ∧ rr_.1 ≤ 131071) ∧ II rr_.2 ∧ FR [kR_at, kR_faultKind, kR_faultPlace, kR_numberFrom, kR_numberTo, kR_numberWhole, kR_value] σ rr_.2 ∧ (σ kR_at 0 ≤ rr_.2 kR_at 0) ∧ (rr_.2 kR_at 0 ≤ σ kR_size 0) ∧ (rr_.2 kR_numberFrom 0 = σ_18 kR_numberFrom 0) ∧ (DG σ (σ_18 kR_numberFrom 0) (rr_.2 kR_at 0))) ?_ ?_
    · refine wp_bd (v_here (σ := σ_18) hσ_18) ?_
      rintro x_24 - ⟨gr, gv, gw⟩
      try simp (disch := omega) only [w32_of, w64_of, w8_of] at gr
      try simp (disch := omega) only [w32_of, w64_of, w8_of] at gv
      have c29 := ii_kR_at hσ_18 0
      have c30 := FR_at flσ_18 (c := kR_at) (by decide) 0
      have c31 := ii_kR_size hσ_18 0
      have c32 := FR_at flσ_18 (c := kR_size) (by decide) 0
      have c33 := ii_kR_size hσ_17 0
      have c34 := FR_at flσ_17 (c := kR_size) (by decide) 0
      try simp (disch := omega) only [w32_of, w64_of, w8_of] at gw
      have c36 := w32_rng x_24
      refine wp_if (fun c35 => ?_) (fun c35 => ?_)
      · try simp (disch := omega) only [w32_of, w64_of, w8_of, decide_eq_true_eq, decide_eq_false_iff_not, Bool.not_eq_true] at c35
        have hd1 := hr_d hσ_18 (by omega)
        rw [FR_at frσ_18 (c := kR_tape) (by decide)] at hd1
        refine wp_wfI hσ_18 b_kR_at (by (try dsimp only) <;> first | assumption | omega | ((try simp (disch := omega) only [w32_of, w64_of, w8_of]) <;> first | assumption | omega | (split <;> omega) | (refine And.intro ?_ ?_ <;> split <;> omega)) | omega) (fun σ_26 hσ_26 eσ_26 => ?_)
        try simp (disch := omega) only [w32_of, w64_of, w8_of] at eσ_26
        have flσ_26 := FR_sg eσ_26
        have frσ_26 : FR [kR_at, kR_faultKind, kR_faultPlace, kR_numberFrom, kR_numberTo, kR_numberWhole, kR_value] σ σ_26 := FR_tr frσ_18 flσ_26 (by decide) (by decide)
        have c37 := ii_kR_at hσ_26 0
        have c38 := sg_val eσ_26
        have c39 := ii_kR_size hσ_26 0
        have c40 := FR_at flσ_26 (c := kR_size) (by decide) 0
        refine wp_bd (v_digitsOn (σ := σ_26) hσ_26 (by (try dsimp only) <;> first | assumption | omega | ((try simp (disch := omega) only [w32_of, w64_of, w8_of]) <;> first | assumption | omega | (split <;> omega) | (refine And.intro ?_ ?_ <;> split <;> omega)) | omega)) ?_
        rintro σ_28 - ⟨hσ_28, flσ_28, dm1, dm2, dgt⟩
        have frσ_28 : FR [kR_at, kR_faultKind, kR_faultPlace, kR_numberFrom, kR_numberTo, kR_numberWhole, kR_value] σ σ_28 := FR_tr frσ_26 flσ_28 (by decide) (by decide)
        have c41 := ii_kR_at hσ_28 0
        try simp (disch := omega) only [w32_of, w64_of, w8_of] at dm1
        try simp (disch := omega) only [w32_of, w64_of, w8_of] at dm2
        try simp (disch := omega) only [w32_of, w64_of, w8_of] at dgt
        have dg2 := dgt
        simp only [FR_at frσ_26 (c := kR_tape) (by decide)] at dg2
        have n4 : σ_26 kR_at 0 = σ_18 kR_at 0 + 1 := sg_val eσ_26
        have c42 := ii_kR_numberWhole hσ_18 0
        have c43 := sg_val eσ_18
        refine wp_lt (fun x_29 e_x_29 => ?_)
        try simp (disch := omega) only [w32_of, w64_of, w8_of] at e_x_29
        have c44 := ii_kR_numberFrom hσ_28 0
        have c45 := FR_at flσ_28 (c := kR_numberFrom) (by decide) 0
        have c46 := ii_kR_numberFrom hσ_26 0
        have c47 := FR_at flσ_26 (c := kR_numberFrom) (by decide) 0
        have c48 := ii_kR_numberFrom hσ_18 0
        have c49 := FR_at flσ_18 (c := kR_numberFrom) (by decide) 0
        exact wp_some ⟨(by (try dsimp only) <;> first | assumption | omega | ((try simp (disch := omega) only [w32_of, w64_of, w8_of]) <;> first | assumption | omega | (split <;> omega) | (refine And.intro ?_ ?_ <;> split <;> omega)) | omega), hσ_28, frσ_28, (by (try dsimp only) <;> first | assumption | omega | ((try simp (disch := omega) only [w32_of, w64_of, w8_of]) <;> first | assumption | omega | (split <;> omega) | (refine And.intro ?_ ?_ <;> split <;> omega)) | omega), (by (try dsimp only) <;> first | assumption | omega | ((try simp (disch := omega) only [w32_of, w64_of, w8_of]) <;> first | assumption | omega | (split <;> omega) | (refine And.intro ?_ ?_ <;> split <;> omega)) | omega), (by (try dsimp only) <;> first | assumption | omega | ((try simp (disch := omega) only [w32_of, w64_of, w8_of]) <;> first | assumption | omega | (split <;> omega) | (refine And.intro ?_ ?_ <;> split <;> omega)) | omega), (by (try dsimp only) <;> (first | (intro i a b; by_cases q1 : i < σ_17 kR_at 0 <;> first | exact Or.inl (dg1 i (by omega) q1) | (by_cases q2 : i = σ_18 kR_at 0 <;> first | (right; rw [q2]; omega) | exact Or.inl (dg2 i (by omega) b))) | (intro i a b; exact Or.inl (dg1 i (by omega) (by omega)))))⟩
      · try simp (disch := omega) only [w32_of, w64_of, w8_of, decide_eq_true_eq, decide_eq_false_iff_not, Bool.not_eq_true] at c35
        have c50 := ii_kR_numberWhole hσ_18 0
        have c51 := sg_val eσ_18
        have c52 := ii_kR_numberFrom hσ_18 0
        have c53 := FR_at flσ_18 (c := kR_numberFrom) (by decide) 0
        exact wp_some ⟨(by (try dsimp only) <;> first | assumption | omega | ((try simp (disch := omega) only [w32_of, w64_of, w8_of]) <;> first | assumption | omega | (split <;> omega) | (refine And.intro ?_ ?_ <;> split <;> omega)) | omega), hσ_18, frσ_18, (by (try dsimp only) <;> first | assumption | omega | ((try simp (disch := omega) only [w32_of, w64_of, w8_of]) <;> first | assumption | omega | (split <;> omega) | (refine And.intro ?_ ?_ <;> split <;> omega)) | omega), (by (try dsimp only) <;> first | assumption | omega | ((try simp (disch := omega) only [w32_of, w64_of, w8_of]) <;> first | assumption | omega | (split <;> omega) | (refine And.intro ?_ ?_ <;> split <;> omega)) | omega), (by (try dsimp only) <;> first | assumption | omega | ((try simp (disch := omega) only [w32_of, w64_of, w8_of]) <;> first | assumption | omega | (split <;> omega) | (refine And.intro ?_ ?_ <;> split <;> omega)) | omega), (by (try dsimp only) <;> (first | (intro i a b; by_cases q1 : i < σ_17 kR_at 0 <;> first | exact Or.inl (dg1 i (by omega) q1) | (by_cases q2 : i = σ_18 kR_at 0 <;> first | (right; rw [q2]; omega) | exact Or.inl (dg2 i (by omega) b))) | (intro i a b; exact Or.inl (dg1 i (by omega) (by omega)))))⟩
    rintro ⟨many_32, σ_33⟩ _ y58
    try dsimp only at y58 ⊢
    obtain ⟨g54, hσ_33, frσ_33, g55, g56, g57, dg⟩ := y58
    have n5 := n1
    have c59 := ii_kR_at hσ_33 0
    refine wp_wfI hσ_33 b_kR_numberTo (by (try dsimp only) <;> first | assumption | omega | ((try simp (disch := omega) only [w32_of, w64_of, w8_of]) <;> first | assumption | omega | (split <;> omega) | (refine And.intro ?_ ?_ <;> split <;> omega)) | omega) (fun σ_34 hσ_34 eσ_34 => ?_)
    try simp (disch := omega) only [w32_of, w64_of, w8_of] at eσ_34
    have flσ_34 := FR_sg eσ_34
    have frσ_34 : FR [kR_at, kR_faultKind, kR_faultPlace, kR_numberFrom, kR_numberTo, kR_numberWhole, kR_value] σ σ_34 := FR_tr frσ_33 flσ_34 (by decide) (by decide)
    have m1 : σ_34 kR_numberFrom 0 = σ_33 kR_numberFrom 0 := by rw [eσ_34, sg_nc (by decide)]
    have m2 : σ_34 kR_numberTo 0 = σ_33 kR_at 0 := sg_val eσ_34
    refine wp_bd (P := fun rr_ => II rr_.2.2 ∧ FR [kR_at, kR_faultKind, kR_faultPlace, kR_numberFrom, kR_numberTo, kR_numberWhole, kR_value] σ rr_.2.2 ∧ (σ kR_at 0 ≤ rr_.2.2 kR_at 0) ∧ (rr_.2.2 kR_at 0 ≤ σ kR_size 0) ∧ (rr_.2.2 kR_numberFrom 0 = σ_34 kR_numberFrom 0) ∧ (rr_.2.2 kR_numberTo 0 = σ_34 kR_numberTo 0) ∧ ((-10000000) ≤ rr_.2.1 ∧ rr_.2.1 ≤ 10000000)) ?_ ?_
    · refine wp_bdk ?_
      refine wp_bd (v_here (σ := σ_34) hσ_34) ?_
      rintro x_110 - ⟨gr, gv, gw⟩
      try simp (disch := omega) only [w32_of, w64_of, w8_of] at gr
      try simp (disch := omega) only [w32_of, w64_of, w8_of] at gv
      have c60 := ii_kR_at hσ_34 0
      have c61 := FR_at flσ_34 (c := kR_at) (by decide) 0
      have c62 := ii_kR_size hσ_34 0
      have c63 := FR_at flσ_34 (c := kR_size) (by decide) 0
      have c64 := ii_kR_size hσ_33 0
      have c65 := FR_at frσ_33 (c := kR_size) (by decide) 0
      try simp (disch := omega) only [w32_of, w64_of, w8_of] at gw
      have c67 := w32_rng x_110
      refine wp_if (fun c66 => ?_) (fun c66 => ?_)
      · try simp (disch := omega) only [w32_of, w64_of, w8_of, decide_eq_true_eq, decide_eq_false_iff_not, Bool.not_eq_true] at c66
        refine wp_somek ?_
        try dsimp only
        refine wp_tt ?_
        refine wp_wfI hσ_34 b_kR_at (by (try dsimp only) <;> first | assumption | omega | ((try simp (disch := omega) only [w32_of, w64_of, w8_of]) <;> first | assumption | omega | (split <;> omega) | (refine And.intro ?_ ?_ <;> split <;> omega)) | omega) (fun σ_119 hσ_119 eσ_119 => ?_)
        try simp (disch := omega) only [w32_of, w64_of, w8_of] at eσ_119
        have flσ_119 := FR_sg eσ_119
        have frσ_119 : FR [kR_at, kR_faultKind, kR_faultPlace, kR_numberFrom, kR_numberTo, kR_numberWhole, kR_value] σ σ_119 := FR_tr frσ_34 flσ_119 (by decide) (by decide)
        refine wp_bd (P := fun rr_ => True) ?_ ?_
        · refine wp_bd (v_here (σ := σ_119) hσ_119) ?_
          rintro x_121 - ⟨gr, gv, gw⟩
          try simp (disch := omega) only [w32_of, w64_of, w8_of] at gr
          try simp (disch := omega) only [w32_of, w64_of, w8_of] at gv
          have c68 := ii_kR_at hσ_119 0
          have c69 := sg_val eσ_119
          have c70 := ii_kR_size hσ_119 0
          have c71 := FR_at flσ_119 (c := kR_size) (by decide) 0
          try simp (disch := omega) only [w32_of, w64_of, w8_of] at gw
          have c73 := w32_rng x_121
          refine wp_if (fun c72 => ?_) (fun c72 => ?_)
          · try simp (disch := omega) only [w32_of, w64_of, w8_of, decide_eq_true_eq, decide_eq_false_iff_not, Bool.not_eq_true] at c72
            exact wp_some trivial
          · try simp (disch := omega) only [w32_of, w64_of, w8_of, decide_eq_true_eq, decide_eq_false_iff_not, Bool.not_eq_true] at c72
            exact wp_some trivial
        rintro x_125 _ -
        refine wp_bd (P := fun rr_ => II rr_ ∧ FR [kR_at, kR_faultKind, kR_faultPlace, kR_numberFrom, kR_numberTo, kR_numberWhole, kR_value] σ rr_ ∧ (σ kR_at 0 ≤ rr_ kR_at 0) ∧ (rr_ kR_at 0 ≤ σ kR_size 0) ∧ (rr_ kR_numberFrom 0 = σ_34 kR_numberFrom 0) ∧ (rr_ kR_numberTo 0 = σ_34 kR_numberTo 0)) ?_ ?_
        · refine wp_bd (v_here (σ := σ_119) hσ_119) ?_
          rintro x_131 - ⟨gr, gv, gw⟩
          try simp (disch := omega) only [w32_of, w64_of, w8_of] at gr
          try simp (disch := omega) only [w32_of, w64_of, w8_of] at gv
          have c74 := ii_kR_at hσ_119 0
          have c75 := sg_val eσ_119
          have c76 := ii_kR_size hσ_119 0
          have c77 := FR_at flσ_119 (c := kR_size) (by decide) 0
          try simp (disch := omega) only [w32_of, w64_of, w8_of] at gw
          refine wp_if (fun c78 => ?_) (fun c78 => ?_)
          · try simp (disch := omega) only [w32_of, w64_of, w8_of, decide_eq_true_eq, decide_eq_false_iff_not, Bool.not_eq_true, fR_isSign] at c78
            refine wp_wfI hσ_119 b_kR_at (by (try dsimp only) <;> first | assumption | omega | ((try simp (disch := omega) only [w32_of, w64_of, w8_of]) <;> first | assumption | omega | (split <;> omega) | (refine And.intro ?_ ?_ <;> split <;> omega)) | omega) (fun σ_133 hσ_133 eσ_133 => ?_)
            try simp (disch := omega) only [w32_of, w64_of, w8_of] at eσ_133
            have flσ_133 := FR_sg eσ_133
            have frσ_133 : FR [kR_at, kR_faultKind, kR_faultPlace, kR_numberFrom, kR_numberTo, kR_numberWhole, kR_value] σ σ_133 := FR_tr frσ_119 flσ_133 (by decide) (by decide)
            have c79 := ii_kR_at hσ_133 0
            have c80 := sg_val eσ_133
            have c81 := ii_kR_numberFrom hσ_133 0
            have c82 := FR_at flσ_133 (c := kR_numberFrom) (by decide) 0
            have c83 := ii_kR_numberFrom hσ_119 0
            have c84 := FR_at flσ_119 (c := kR_numberFrom) (by decide) 0
            have c85 := ii_kR_numberFrom hσ_34 0
            have c86 := FR_at flσ_34 (c := kR_numberFrom) (by decide) 0
            have c87 := ii_kR_numberFrom hσ_33 0
            have c88 := ii_kR_numberTo hσ_133 0
            have c89 := FR_at flσ_133 (c := kR_numberTo) (by decide) 0
            have c90 := ii_kR_numberTo hσ_119 0
            have c91 := FR_at flσ_119 (c := kR_numberTo) (by decide) 0
            have c92 := ii_kR_numberTo hσ_34 0
            have c93 := sg_val eσ_34
            exact wp_some ⟨hσ_133, frσ_133, (by (try dsimp only) <;> first | assumption | omega | ((try simp (disch := omega) only [w32_of, w64_of, w8_of]) <;> first | assumption | omega | (split <;> omega) | (refine And.intro ?_ ?_ <;> split <;> omega)) | omega), (by (try dsimp only) <;> first | assumption | omega | ((try simp (disch := omega) only [w32_of, w64_of, w8_of]) <;> first | assumption | omega | (split <;> omega) | (refine And.intro ?_ ?_ <;> split <;> omega)) | omega), (by (try dsimp only) <;> first | assumption | omega | ((try simp (disch := omega) only [w32_of, w64_of, w8_of]) <;> first | assumption | omega | (split <;> omega) | (refine And.intro ?_ ?_ <;> split <;> omega)) | omega), (by (try dsimp only) <;> first | assumption | omega | ((try simp (disch := omega) only [w32_of, w64_of, w8_of]) <;> first | assumption | omega | (split <;> omega) | (refine And.intro ?_ ?_ <;> split <;> omega)) | omega)⟩
          · try simp (disch := omega) only [w32_of, w64_of, w8_of, decide_eq_true_eq, decide_eq_false_iff_not, Bool.not_eq_true, fR_isSign] at c78
            have c94 := ii_kR_numberFrom hσ_119 0
            have c95 := FR_at flσ_119 (c := kR_numberFrom) (by decide) 0
            have c96 := ii_kR_numberFrom hσ_34 0
            have c97 := FR_at flσ_34 (c := kR_numberFrom) (by decide) 0
            have c98 := ii_kR_numberFrom hσ_33 0
            have c99 := ii_kR_numberTo hσ_119 0
            have c100 := FR_at flσ_119 (c := kR_numberTo) (by decide) 0
            have c101 := ii_kR_numberTo hσ_34 0
            have c102 := sg_val eσ_34
            exact wp_some ⟨hσ_119, frσ_119, (by (try dsimp only) <;> first | assumption | omega | ((try simp (disch := omega) only [w32_of, w64_of, w8_of]) <;> first | assumption | omega | (split <;> omega) | (refine And.intro ?_ ?_ <;> split <;> omega)) | omega), (by (try dsimp only) <;> first | assumption | omega | ((try simp (disch := omega) only [w32_of, w64_of, w8_of]) <;> first | assumption | omega | (split <;> omega) | (refine And.intro ?_ ?_ <;> split <;> omega)) | omega), (by (try dsimp only) <;> first | assumption | omega | ((try simp (disch := omega) only [w32_of, w64_of, w8_of]) <;> first | assumption | omega | (split <;> omega) | (refine And.intro ?_ ?_ <;> split <;> omega)) | omega), (by (try dsimp only) <;> first | assumption | omega | ((try simp (disch := omega) only [w32_of, w64_of, w8_of]) <;> first | assumption | omega | (split <;> omega) | (refine And.intro ?_ ?_ <;> split <;> omega)) | omega)⟩
        rintro σ_136 _ ⟨hσ_136, frσ_136, g103, g104, g105, g106⟩
        refine wp_bd (P := fun rr_ => II rr_.2 ∧ FR [kR_at, kR_faultKind, kR_faultPlace, kR_numberFrom, kR_numberTo, kR_numberWhole, kR_value] σ rr_.2 ∧ (σ kR_at 0 ≤ rr_.2 kR_at 0) ∧ (rr_.2 kR_at 0 ≤ σ kR_size 0) ∧ (rr_.2 kR_numberFrom 0 = σ_34 kR_numberFrom 0) ∧ (rr_.2 kR_numberTo 0 = σ_34 kR_numberTo 0) ∧ (0 ≤ rr_.1 ∧ rr_.1 ≤ 10000000)) ?_ ?_
        · have c107 := ii_kR_at hσ_136 0
          have c108 := ii_kR_numberFrom hσ_136 0
          have c109 := ii_kR_numberFrom hσ_34 0
          have c110 := FR_at flσ_34 (c := kR_numberFrom) (by decide) 0
          have c111 := ii_kR_numberFrom hσ_33 0
          have c112 := ii_kR_numberTo hσ_136 0
          have c113 := ii_kR_numberTo hσ_34 0
          have c114 := sg_val eσ_34
          refine wp_whl (fun ss_ => II ss_.2 ∧ FR [kR_at, kR_faultKind, kR_faultPlace, kR_numberFrom, kR_numberTo, kR_numberWhole, kR_value] σ ss_.2 ∧ (σ kR_at 0 ≤ ss_.2 kR_at 0) ∧ (ss_.2 kR_at 0 ≤ σ kR_size 0) ∧ (ss_.2 kR_numberFrom 0 = σ_34 kR_numberFrom 0) ∧ (ss_.2 kR_numberTo 0 = σ_34 kR_numberTo 0) ∧ (0 ≤ ss_.1 ∧ ss_.1 ≤ 10000000)) (fun ss_ => (65536 - (ss_.2 kR_at 0)).toNat) ⟨hσ_136, frσ_136, (by (try dsimp only) <;> first | assumption | omega | ((try simp (disch := omega) only [w32_of, w64_of, w8_of]) <;> first | assumption | omega | (split <;> omega) | (refine And.intro ?_ ?_ <;> split <;> omega)) | omega), (by (try dsimp only) <;> first | assumption | omega | ((try simp (disch := omega) only [w32_of, w64_of, w8_of]) <;> first | assumption | omega | (split <;> omega) | (refine And.intro ?_ ?_ <;> split <;> omega)) | omega), (by (try dsimp only) <;> first | assumption | omega | ((try simp (disch := omega) only [w32_of, w64_of, w8_of]) <;> first | assumption | omega | (split <;> omega) | (refine And.intro ?_ ?_ <;> split <;> omega)) | omega), (by (try dsimp only) <;> first | assumption | omega | ((try simp (disch := omega) only [w32_of, w64_of, w8_of]) <;> first | assumption | omega | (split <;> omega) | (refine And.intro ?_ ?_ <;> split <;> omega)) | omega), (by (try dsimp only) <;> first | assumption | omega | ((try simp (disch := omega) only [w32_of, w64_of, w8_of]) <;> first | assumption | omega | (split <;> omega) | (refine And.intro ?_ ?_ <;> split <;> omega)) | omega)⟩ ?_
          rintro ⟨power_137, σ_138⟩ y120
          try dsimp only at y120 ⊢
          obtain ⟨hσ_138, frσ_138, g115, g116, g117, g118, g119⟩ := y120
          refine wp_bd (v_here (σ := σ_138) hσ_138) ?_
          rintro x_147 - ⟨gr, gv, gw⟩
          try simp (disch := omega) only [w32_of, w64_of, w8_of] at gr
          try simp (disch := omega) only [w32_of, w64_of, w8_of] at gv
          have c121 := ii_kR_at hσ_138 0
          have c122 := ii_kR_size hσ_138 0
          have c123 := FR_at frσ_138 (c := kR_size) (by decide) 0
          try simp (disch := omega) only [w32_of, w64_of, w8_of] at gw
          refine wp_if (fun c124 => ?_) (fun c124 => ?_)
          · try simp (disch := omega) only [w32_of, w64_of, w8_of, decide_eq_true_eq, decide_eq_false_iff_not, Bool.not_eq_true, fR_isDigit] at c124
            refine wp_bd (P := fun rr_ => ((-92233720368547758129) ≤ rr_ ∧ rr_ ≤ 1000000000) ∧ (0 ≤ rr_ ∧ rr_ ≤ 10000000)) ?_ ?_
            · have c126 := w64_rng power_137
              refine wp_if (fun c125 => ?_) (fun c125 => ?_)
              · try simp (disch := omega) only [w32_of, w64_of, w8_of, decide_eq_true_eq, decide_eq_false_iff_not, Bool.not_eq_true] at c125
                refine wp_bd (v_here (σ := σ_138) hσ_138) ?_
                rintro x_153 - ⟨gr, gv, gw⟩
                try simp (disch := omega) only [w32_of, w64_of, w8_of] at gr
                try simp (disch := omega) only [w32_of, w64_of, w8_of] at gv
                try simp (disch := omega) only [w32_of, w64_of, w8_of] at gw
                have c127 := w32_rng x_153
                exact wp_some ⟨(by (try dsimp only) <;> first | assumption | omega | ((try simp (disch := omega) only [w32_of, w64_of, w8_of]) <;> first | assumption | omega | (split <;> omega) | (refine And.intro ?_ ?_ <;> split <;> omega)) | omega), (by (try dsimp only) <;> first | assumption | omega | ((try simp (disch := omega) only [w32_of, w64_of, w8_of]) <;> first | assumption | omega | (split <;> omega) | (refine And.intro ?_ ?_ <;> split <;> omega)) | omega)⟩
              · try simp (disch := omega) only [w32_of, w64_of, w8_of, decide_eq_true_eq, decide_eq_false_iff_not, Bool.not_eq_true] at c125
                exact wp_some ⟨(by (try dsimp only) <;> first | assumption | omega | ((try simp (disch := omega) only [w32_of, w64_of, w8_of]) <;> first | assumption | omega | (split <;> omega) | (refine And.intro ?_ ?_ <;> split <;> omega)) | omega), (by (try dsimp only) <;> first | assumption | omega | ((try simp (disch := omega) only [w32_of, w64_of, w8_of]) <;> first | assumption | omega | (split <;> omega) | (refine And.intro ?_ ?_ <;> split <;> omega)) | omega)⟩
            rintro x_156 _ ⟨g128, g129⟩
            refine wp_wfI hσ_138 b_kR_at (by (try dsimp only) <;> first | assumption | omega | ((try simp (disch := omega) only [w32_of, w64_of, w8_of]) <;> first | assumption | omega | (split <;> omega) | (refine And.intro ?_ ?_ <;> split <;> omega)) | omega) (fun σ_157 hσ_157 eσ_157 => ?_)
            try simp (disch := omega) only [w32_of, w64_of, w8_of] at eσ_157
            have flσ_157 := FR_sg eσ_157
            have frσ_157 : FR [kR_at, kR_faultKind, kR_faultPlace, kR_numberFrom, kR_numberTo, kR_numberWhole, kR_value] σ σ_157 := FR_tr frσ_138 flσ_157 (by decide) (by decide)
            have c130 := ii_kR_at hσ_157 0
            have c131 := sg_val eσ_157
            have c132 := ii_kR_numberFrom hσ_157 0
            have c133 := FR_at flσ_157 (c := kR_numberFrom) (by decide) 0
            have c134 := ii_kR_numberFrom hσ_138 0
            have c135 := ii_kR_numberTo hσ_157 0
            have c136 := FR_at flσ_157 (c := kR_numberTo) (by decide) 0
            have c137 := ii_kR_numberTo hσ_138 0
            exact wp_some (x_inl ⟨⟨hσ_157, frσ_157, (by (try dsimp only) <;> first | assumption | omega | ((try simp (disch := omega) only [w32_of, w64_of, w8_of]) <;> first | assumption | omega | (split <;> omega) | (refine And.intro ?_ ?_ <;> split <;> omega)) | omega), (by (try dsimp only) <;> first | assumption | omega | ((try simp (disch := omega) only [w32_of, w64_of, w8_of]) <;> first | assumption | omega | (split <;> omega) | (refine And.intro ?_ ?_ <;> split <;> omega)) | omega), (by (try dsimp only) <;> first | assumption | omega | ((try simp (disch := omega) only [w32_of, w64_of, w8_of]) <;> first | assumption | omega | (split <;> omega) | (refine And.intro ?_ ?_ <;> split <;> omega)) | omega), (by (try dsimp only) <;> first | assumption | omega | ((try simp (disch := omega) only [w32_of, w64_of, w8_of]) <;> first | assumption | omega | (split <;> omega) | (refine And.intro ?_ ?_ <;> split <;> omega)) | omega), (by (try dsimp only) <;> first | assumption | omega | ((try simp (disch := omega) only [w32_of, w64_of, w8_of]) <;> first | assumption | omega | (split <;> omega) | (refine And.intro ?_ ?_ <;> split <;> omega)) | omega)⟩, (by (try dsimp only) <;> first | assumption | omega | ((try simp (disch := omega) only [w32_of, w64_of, w8_of]) <;> first | assumption | omega | (split <;> omega) | (refine And.intro ?_ ?_ <;> split <;> omega)) | omega)⟩)
          · try simp (disch := omega) only [w32_of, w64_of, w8_of, decide_eq_true_eq, decide_eq_false_iff_not, Bool.not_eq_true, fR_isDigit] at c124
            have c138 := ii_kR_numberFrom hσ_138 0
            have c139 := ii_kR_numberTo hσ_138 0
            exact wp_some (x_inr ⟨hσ_138, frσ_138, (by (try dsimp only) <;> first | assumption | omega | ((try simp (disch := omega) only [w32_of, w64_of, w8_of]) <;> first | assumption | omega | (split <;> omega) | (refine And.intro ?_ ?_ <;> split <;> omega)) | omega), (by (try dsimp only) <;> first | assumption | omega | ((try simp (disch := omega) only [w32_of, w64_of, w8_of]) <;> first | assumption | omega | (split <;> omega) | (refine And.intro ?_ ?_ <;> split <;> omega)) | omega), (by (try dsimp only) <;> first | assumption | omega | ((try simp (disch := omega) only [w32_of, w64_of, w8_of]) <;> first | assumption | omega | (split <;> omega) | (refine And.intro ?_ ?_ <;> split <;> omega)) | omega), (by (try dsimp only) <;> first | assumption | omega | ((try simp (disch := omega) only [w32_of, w64_of, w8_of]) <;> first | assumption | omega | (split <;> omega) | (refine And.intro ?_ ?_ <;> split <;> omega)) | omega), (by (try dsimp only) <;> first | assumption | omega | ((try simp (disch := omega) only [w32_of, w64_of, w8_of]) <;> first | assumption | omega | (split <;> omega) | (refine And.intro ?_ ?_ <;> split <;> omega)) | omega)⟩)
        rintro ⟨power_164, σ_165⟩ _ y145
        try dsimp only at y145 ⊢
        obtain ⟨hσ_165, frσ_165, g140, g141, g142, g143, g144⟩ := y145
        have c146 := w32_rng many_32
        have c147 := ii_kR_at hσ_136 0
        have c148 := w32_rng (σ_136 kR_at 0)
        have c149 := ii_kR_at hσ_165 0
        have c150 := w32_rng (σ_165 kR_at 0)
        refine wp_lt (fun x_167 e_x_167 => ?_)
        try simp (disch := omega) only [w32_of, w64_of, w8_of] at e_x_167
        have c151 := ii_kR_numberFrom hσ_165 0
        have c152 := ii_kR_numberFrom hσ_34 0
        have c153 := FR_at flσ_34 (c := kR_numberFrom) (by decide) 0
        have c154 := ii_kR_numberFrom hσ_33 0
        have c155 := ii_kR_numberTo hσ_165 0
        have c156 := ii_kR_numberTo hσ_34 0
        have c157 := sg_val eσ_34
        exact wp_some ⟨hσ_165, frσ_165, (by (try dsimp only) <;> first | assumption | omega | ((try simp (disch := omega) only [w32_of, w64_of, w8_of]) <;> first | assumption | omega | (split <;> omega) | (refine And.intro ?_ ?_ <;> split <;> omega)) | omega), (by (try dsimp only) <;> first | assumption | omega | ((try simp (disch := omega) only [w32_of, w64_of, w8_of]) <;> first | assumption | omega | (split <;> omega) | (refine And.intro ?_ ?_ <;> split <;> omega)) | omega), (by (try dsimp only) <;> first | assumption | omega | ((try simp (disch := omega) only [w32_of, w64_of, w8_of]) <;> first | assumption | omega | (split <;> omega) | (refine And.intro ?_ ?_ <;> split <;> omega)) | omega), (by (try dsimp only) <;> first | assumption | omega | ((try simp (disch := omega) only [w32_of, w64_of, w8_of]) <;> first | assumption | omega | (split <;> omega) | (refine And.intro ?_ ?_ <;> split <;> omega)) | omega), (by (try dsimp only) <;> first | assumption | omega | ((try simp (disch := omega) only [w32_of, w64_of, w8_of]) <;> first | assumption | omega | (split <;> omega) | (refine And.intro ?_ ?_ <;> split <;> omega)) | omega)⟩
      · try simp (disch := omega) only [w32_of, w64_of, w8_of, decide_eq_true_eq, decide_eq_false_iff_not, Bool.not_eq_true] at c66
        refine wp_bd (v_here (σ := σ_34) hσ_34) ?_
        rintro x_114 - ⟨gr, gv, gw⟩
        try simp (disch := omega) only [w32_of, w64_of, w8_of] at gr
        try simp (disch := omega) only [w32_of, w64_of, w8_of] at gv
        try simp (disch := omega) only [w32_of, w64_of, w8_of] at gw
        have c159 := w32_rng x_114
        refine wp_if (fun c158 => ?_) (fun c158 => ?_)
        · try simp (disch := omega) only [w32_of, w64_of, w8_of, decide_eq_true_eq, decide_eq_false_iff_not, Bool.not_eq_true] at c158
          refine wp_somek ?_
          try dsimp only
          refine wp_tt ?_
          refine wp_wfI hσ_34 b_kR_at (by (try dsimp only) <;> first | assumption | omega | ((try simp (disch := omega) only [w32_of, w64_of, w8_of]) <;> first | assumption | omega | (split <;> omega) | (refine And.intro ?_ ?_ <;> split <;> omega)) | omega) (fun σ_119 hσ_119 eσ_119 => ?_)
          try simp (disch := omega) only [w32_of, w64_of, w8_of] at eσ_119
          have flσ_119 := FR_sg eσ_119
          have frσ_119 : FR [kR_at, kR_faultKind, kR_faultPlace, kR_numberFrom, kR_numberTo, kR_numberWhole, kR_value] σ σ_119 := FR_tr frσ_34 flσ_119 (by decide) (by decide)
          refine wp_bd (P := fun rr_ => True) ?_ ?_
          · refine wp_bd (v_here (σ := σ_119) hσ_119) ?_
            rintro x_121 - ⟨gr, gv, gw⟩
            try simp (disch := omega) only [w32_of, w64_of, w8_of] at gr
            try simp (disch := omega) only [w32_of, w64_of, w8_of] at gv
            have c160 := ii_kR_at hσ_119 0
            have c161 := sg_val eσ_119
            have c162 := ii_kR_size hσ_119 0
            have c163 := FR_at flσ_119 (c := kR_size) (by decide) 0
            try simp (disch := omega) only [w32_of, w64_of, w8_of] at gw
            have c165 := w32_rng x_121
            refine wp_if (fun c164 => ?_) (fun c164 => ?_)
            · try simp (disch := omega) only [w32_of, w64_of, w8_of, decide_eq_true_eq, decide_eq_false_iff_not, Bool.not_eq_true] at c164
              exact wp_some trivial
            · try simp (disch := omega) only [w32_of, w64_of, w8_of, decide_eq_true_eq, decide_eq_false_iff_not, Bool.not_eq_true] at c164
              exact wp_some trivial
          rintro x_125 _ -
          refine wp_bd (P := fun rr_ => II rr_ ∧ FR [kR_at, kR_faultKind, kR_faultPlace, kR_numberFrom, kR_numberTo, kR_numberWhole, kR_value] σ rr_ ∧ (σ kR_at 0 ≤ rr_ kR_at 0) ∧ (rr_ kR_at 0 ≤ σ kR_size 0) ∧ (rr_ kR_numberFrom 0 = σ_34 kR_numberFrom 0) ∧ (rr_ kR_numberTo 0 = σ_34 kR_numberTo 0)) ?_ ?_
          · refine wp_bd (v_here (σ := σ_119) hσ_119) ?_
            rintro x_131 - ⟨gr, gv, gw⟩
            try simp (disch := omega) only [w32_of, w64_of, w8_of] at gr
            try simp (disch := omega) only [w32_of, w64_of, w8_of] at gv
            have c166 := ii_kR_at hσ_119 0
            have c167 := sg_val eσ_119
            have c168 := ii_kR_size hσ_119 0
            have c169 := FR_at flσ_119 (c := kR_size) (by decide) 0
            try simp (disch := omega) only [w32_of, w64_of, w8_of] at gw
            refine wp_if (fun c170 => ?_) (fun c170 => ?_)
            · try simp (disch := omega) only [w32_of, w64_of, w8_of, decide_eq_true_eq, decide_eq_false_iff_not, Bool.not_eq_true, fR_isSign] at c170
              refine wp_wfI hσ_119 b_kR_at (by (try dsimp only) <;> first | assumption | omega | ((try simp (disch := omega) only [w32_of, w64_of, w8_of]) <;> first | assumption | omega | (split <;> omega) | (refine And.intro ?_ ?_ <;> split <;> omega)) | omega) (fun σ_133 hσ_133 eσ_133 => ?_)
              try simp (disch := omega) only [w32_of, w64_of, w8_of] at eσ_133
              have flσ_133 := FR_sg eσ_133
              have frσ_133 : FR [kR_at, kR_faultKind, kR_faultPlace, kR_numberFrom, kR_numberTo, kR_numberWhole, kR_value] σ σ_133 := FR_tr frσ_119 flσ_133 (by decide) (by decide)
              have c171 := ii_kR_at hσ_133 0
              have c172 := sg_val eσ_133
              have c173 := ii_kR_numberFrom hσ_133 0
              have c174 := FR_at flσ_133 (c := kR_numberFrom) (by decide) 0
              have c175 := ii_kR_numberFrom hσ_119 0
              have c176 := FR_at flσ_119 (c := kR_numberFrom) (by decide) 0
              have c177 := ii_kR_numberFrom hσ_34 0
              have c178 := FR_at flσ_34 (c := kR_numberFrom) (by decide) 0
              have c179 := ii_kR_numberFrom hσ_33 0
              have c180 := ii_kR_numberTo hσ_133 0
              have c181 := FR_at flσ_133 (c := kR_numberTo) (by decide) 0
              have c182 := ii_kR_numberTo hσ_119 0
              have c183 := FR_at flσ_119 (c := kR_numberTo) (by decide) 0
              have c184 := ii_kR_numberTo hσ_34 0
              have c185 := sg_val eσ_34
              exact wp_some ⟨hσ_133, frσ_133, (by (try dsimp only) <;> first | assumption | omega | ((try simp (disch := omega) only [w32_of, w64_of, w8_of]) <;> first | assumption | omega | (split <;> omega) | (refine And.intro ?_ ?_ <;> split <;> omega)) | omega), (by (try dsimp only) <;> first | assumption | omega | ((try simp (disch := omega) only [w32_of, w64_of, w8_of]) <;> first | assumption | omega | (split <;> omega) | (refine And.intro ?_ ?_ <;> split <;> omega)) | omega), (by (try dsimp only) <;> first | assumption | omega | ((try simp (disch := omega) only [w32_of, w64_of, w8_of]) <;> first | assumption | omega | (split <;> omega) | (refine And.intro ?_ ?_ <;> split <;> omega)) | omega), (by (try dsimp only) <;> first | assumption | omega | ((try simp (disch := omega) only [w32_of, w64_of, w8_of]) <;> first | assumption | omega | (split <;> omega) | (refine And.intro ?_ ?_ <;> split <;> omega)) | omega)⟩
            · try simp (disch := omega) only [w32_of, w64_of, w8_of, decide_eq_true_eq, decide_eq_false_iff_not, Bool.not_eq_true, fR_isSign] at c170
              have c186 := ii_kR_numberFrom hσ_119 0
              have c187 := FR_at flσ_119 (c := kR_numberFrom) (by decide) 0
              have c188 := ii_kR_numberFrom hσ_34 0
              have c189 := FR_at flσ_34 (c := kR_numberFrom) (by decide) 0
              have c190 := ii_kR_numberFrom hσ_33 0
              have c191 := ii_kR_numberTo hσ_119 0
              have c192 := FR_at flσ_119 (c := kR_numberTo) (by decide) 0
              have c193 := ii_kR_numberTo hσ_34 0
              have c194 := sg_val eσ_34
              exact wp_some ⟨hσ_119, frσ_119, (by (try dsimp only) <;> first | assumption | omega | ((try simp (disch := omega) only [w32_of, w64_of, w8_of]) <;> first | assumption | omega | (split <;> omega) | (refine And.intro ?_ ?_ <;> split <;> omega)) | omega), (by (try dsimp only) <;> first | assumption | omega | ((try simp (disch := omega) only [w32_of, w64_of, w8_of]) <;> first | assumption | omega | (split <;> omega) | (refine And.intro ?_ ?_ <;> split <;> omega)) | omega), (by (try dsimp only) <;> first | assumption | omega | ((try simp (disch := omega) only [w32_of, w64_of, w8_of]) <;> first | assumption | omega | (split <;> omega) | (refine And.intro ?_ ?_ <;> split <;> omega)) | omega), (by (try dsimp only) <;> first | assumption | omega | ((try simp (disch := omega) only [w32_of, w64_of, w8_of]) <;> first | assumption | omega | (split <;> omega) | (refine And.intro ?_ ?_ <;> split <;> omega)) | omega)⟩
          rintro σ_136 _ ⟨hσ_136, frσ_136, g195, g196, g197, g198⟩
          refine wp_bd (P := fun rr_ => II rr_.2 ∧ FR [kR_at, kR_faultKind, kR_faultPlace, kR_numberFrom, kR_numberTo, kR_numberWhole, kR_value] σ rr_.2 ∧ (σ kR_at 0 ≤ rr_.2 kR_at 0) ∧ (rr_.2 kR_at 0 ≤ σ kR_size 0) ∧ (rr_.2 kR_numberFrom 0 = σ_34 kR_numberFrom 0) ∧ (rr_.2 kR_numberTo 0 = σ_34 kR_numberTo 0) ∧ (0 ≤ rr_.1 ∧ rr_.1 ≤ 10000000)) ?_ ?_
          · have c199 := ii_kR_at hσ_136 0
            have c200 := ii_kR_numberFrom hσ_136 0
            have c201 := ii_kR_numberFrom hσ_34 0
            have c202 := FR_at flσ_34 (c := kR_numberFrom) (by decide) 0
            have c203 := ii_kR_numberFrom hσ_33 0
            have c204 := ii_kR_numberTo hσ_136 0
            have c205 := ii_kR_numberTo hσ_34 0
            have c206 := sg_val eσ_34
            refine wp_whl (fun ss_ => II ss_.2 ∧ FR [kR_at, kR_faultKind, kR_faultPlace, kR_numberFrom, kR_numberTo, kR_numberWhole, kR_value] σ ss_.2 ∧ (σ kR_at 0 ≤ ss_.2 kR_at 0) ∧ (ss_.2 kR_at 0 ≤ σ kR_size 0) ∧ (ss_.2 kR_numberFrom 0 = σ_34 kR_numberFrom 0) ∧ (ss_.2 kR_numberTo 0 = σ_34 kR_numberTo 0) ∧ (0 ≤ ss_.1 ∧ ss_.1 ≤ 10000000)) (fun ss_ => (65536 - (ss_.2 kR_at 0)).toNat) ⟨hσ_136, frσ_136, (by (try dsimp only) <;> first | assumption | omega | ((try simp (disch := omega) only [w32_of, w64_of, w8_of]) <;> first | assumption | omega | (split <;> omega) | (refine And.intro ?_ ?_ <;> split <;> omega)) | omega), (by (try dsimp only) <;> first | assumption | omega | ((try simp (disch := omega) only [w32_of, w64_of, w8_of]) <;> first | assumption | omega | (split <;> omega) | (refine And.intro ?_ ?_ <;> split <;> omega)) | omega), (by (try dsimp only) <;> first | assumption | omega | ((try simp (disch := omega) only [w32_of, w64_of, w8_of]) <;> first | assumption | omega | (split <;> omega) | (refine And.intro ?_ ?_ <;> split <;> omega)) | omega), (by (try dsimp only) <;> first | assumption | omega | ((try simp (disch := omega) only [w32_of, w64_of, w8_of]) <;> first | assumption | omega | (split <;> omega) | (refine And.intro ?_ ?_ <;> split <;> omega)) | omega), (by (try dsimp only) <;> first | assumption | omega | ((try simp (disch := omega) only [w32_of, w64_of, w8_of]) <;> first | assumption | omega | (split <;> omega) | (refine And.intro ?_ ?_ <;> split <;> omega)) | omega)⟩ ?_
            rintro ⟨power_137, σ_138⟩ y212
            try dsimp only at y212 ⊢
            obtain ⟨hσ_138, frσ_138, g207, g208, g209, g210, g211⟩ := y212
            refine wp_bd (v_here (σ := σ_138) hσ_138) ?_
            rintro x_147 - ⟨gr, gv, gw⟩
            try simp (disch := omega) only [w32_of, w64_of, w8_of] at gr
            try simp (disch := omega) only [w32_of, w64_of, w8_of] at gv
            have c213 := ii_kR_at hσ_138 0
            have c214 := ii_kR_size hσ_138 0
            have c215 := FR_at frσ_138 (c := kR_size) (by decide) 0
            try simp (disch := omega) only [w32_of, w64_of, w8_of] at gw
            refine wp_if (fun c216 => ?_) (fun c216 => ?_)
            · try simp (disch := omega) only [w32_of, w64_of, w8_of, decide_eq_true_eq, decide_eq_false_iff_not, Bool.not_eq_true, fR_isDigit] at c216
              refine wp_bd (P := fun rr_ => ((-92233720368547758129) ≤ rr_ ∧ rr_ ≤ 1000000000) ∧ (0 ≤ rr_ ∧ rr_ ≤ 10000000)) ?_ ?_
              · have c218 := w64_rng power_137
                refine wp_if (fun c217 => ?_) (fun c217 => ?_)
                · try simp (disch := omega) only [w32_of, w64_of, w8_of, decide_eq_true_eq, decide_eq_false_iff_not, Bool.not_eq_true] at c217
                  refine wp_bd (v_here (σ := σ_138) hσ_138) ?_
                  rintro x_153 - ⟨gr, gv, gw⟩
                  try simp (disch := omega) only [w32_of, w64_of, w8_of] at gr
                  try simp (disch := omega) only [w32_of, w64_of, w8_of] at gv
                  try simp (disch := omega) only [w32_of, w64_of, w8_of] at gw
                  have c219 := w32_rng x_153
                  exact wp_some ⟨(by (try dsimp only) <;> first | assumption | omega | ((try simp (disch := omega) only [w32_of, w64_of, w8_of]) <;> first | assumption | omega | (split <;> omega) | (refine And.intro ?_ ?_ <;> split <;> omega)) | omega), (by (try dsimp only) <;> first | assumption | omega | ((try simp (disch := omega) only [w32_of, w64_of, w8_of]) <;> first | assumption | omega | (split <;> omega) | (refine And.intro ?_ ?_ <;> split <;> omega)) | omega)⟩
                · try simp (disch := omega) only [w32_of, w64_of, w8_of, decide_eq_true_eq, decide_eq_false_iff_not, Bool.not_eq_true] at c217
                  exact wp_some ⟨(by (try dsimp only) <;> first | assumption | omega | ((try simp (disch := omega) only [w32_of, w64_of, w8_of]) <;> first | assumption | omega | (split <;> omega) | (refine And.intro ?_ ?_ <;> split <;> omega)) | omega), (by (try dsimp only) <;> first | assumption | omega | ((try simp (disch := omega) only [w32_of, w64_of, w8_of]) <;> first | assumption | omega | (split <;> omega) | (refine And.intro ?_ ?_ <;> split <;> omega)) | omega)⟩
              rintro x_156 _ ⟨g220, g221⟩
              refine wp_wfI hσ_138 b_kR_at (by (try dsimp only) <;> first | assumption | omega | ((try simp (disch := omega) only [w32_of, w64_of, w8_of]) <;> first | assumption | omega | (split <;> omega) | (refine And.intro ?_ ?_ <;> split <;> omega)) | omega) (fun σ_157 hσ_157 eσ_157 => ?_)
              try simp (disch := omega) only [w32_of, w64_of, w8_of] at eσ_157
              have flσ_157 := FR_sg eσ_157
              have frσ_157 : FR [kR_at, kR_faultKind, kR_faultPlace, kR_numberFrom, kR_numberTo, kR_numberWhole, kR_value] σ σ_157 := FR_tr frσ_138 flσ_157 (by decide) (by decide)
              have c222 := ii_kR_at hσ_157 0
              have c223 := sg_val eσ_157
              have c224 := ii_kR_numberFrom hσ_157 0
              have c225 := FR_at flσ_157 (c := kR_numberFrom) (by decide) 0
              have c226 := ii_kR_numberFrom hσ_138 0
              have c227 := ii_kR_numberTo hσ_157 0
              have c228 := FR_at flσ_157 (c := kR_numberTo) (by decide) 0
              have c229 := ii_kR_numberTo hσ_138 0
              exact wp_some (x_inl ⟨⟨hσ_157, frσ_157, (by (try dsimp only) <;> first | assumption | omega | ((try simp (disch := omega) only [w32_of, w64_of, w8_of]) <;> first | assumption | omega | (split <;> omega) | (refine And.intro ?_ ?_ <;> split <;> omega)) | omega), (by (try dsimp only) <;> first | assumption | omega | ((try simp (disch := omega) only [w32_of, w64_of, w8_of]) <;> first | assumption | omega | (split <;> omega) | (refine And.intro ?_ ?_ <;> split <;> omega)) | omega), (by (try dsimp only) <;> first | assumption | omega | ((try simp (disch := omega) only [w32_of, w64_of, w8_of]) <;> first | assumption | omega | (split <;> omega) | (refine And.intro ?_ ?_ <;> split <;> omega)) | omega), (by (try dsimp only) <;> first | assumption | omega | ((try simp (disch := omega) only [w32_of, w64_of, w8_of]) <;> first | assumption | omega | (split <;> omega) | (refine And.intro ?_ ?_ <;> split <;> omega)) | omega), (by (try dsimp only) <;> first | assumption | omega | ((try simp (disch := omega) only [w32_of, w64_of, w8_of]) <;> first | assumption | omega | (split <;> omega) | (refine And.intro ?_ ?_ <;> split <;> omega)) | omega)⟩, (by (try dsimp only) <;> first | assumption | omega | ((try simp (disch := omega) only [w32_of, w64_of, w8_of]) <;> first | assumption | omega | (split <;> omega) | (refine And.intro ?_ ?_ <;> split <;> omega)) | omega)⟩)
            · try simp (disch := omega) only [w32_of, w64_of, w8_of, decide_eq_true_eq, decide_eq_false_iff_not, Bool.not_eq_true, fR_isDigit] at c216
              have c230 := ii_kR_numberFrom hσ_138 0
              have c231 := ii_kR_numberTo hσ_138 0
              exact wp_some (x_inr ⟨hσ_138, frσ_138, (by (try dsimp only) <;> first | assumption | omega | ((try simp (disch := omega) only [w32_of, w64_of, w8_of]) <;> first | assumption | omega | (split <;> omega) | (refine And.intro ?_ ?_ <;> split <;> omega)) | omega), (by (try dsimp only) <;> first | assumption | omega | ((try simp (disch := omega) only [w32_of, w64_of, w8_of]) <;> first | assumption | omega | (split <;> omega) | (refine And.intro ?_ ?_ <;> split <;> omega)) | omega), (by (try dsimp only) <;> first | assumption | omega | ((try simp (disch := omega) only [w32_of, w64_of, w8_of]) <;> first | assumption | omega | (split <;> omega) | (refine And.intro ?_ ?_ <;> split <;> omega)) | omega), (by (try dsimp only) <;> first | assumption | omega | ((try simp (disch := omega) only [w32_of, w64_of, w8_of]) <;> first | assumption | omega | (split <;> omega) | (refine And.intro ?_ ?_ <;> split <;> omega)) | omega), (by (try dsimp only) <;> first | assumption | omega | ((try simp (disch := omega) only [w32_of, w64_of, w8_of]) <;> first | assumption | omega | (split <;> omega) | (refine And.intro ?_ ?_ <;> split <;> omega)) | omega)⟩)
          rintro ⟨power_164, σ_165⟩ _ y237
          try dsimp only at y237 ⊢
          obtain ⟨hσ_165, frσ_165, g232, g233, g234, g235, g236⟩ := y237
          have c238 := w32_rng many_32
          have c239 := ii_kR_at hσ_136 0
          have c240 := w32_rng (σ_136 kR_at 0)
          have c241 := ii_kR_at hσ_165 0
          have c242 := w32_rng (σ_165 kR_at 0)
          refine wp_lt (fun x_167 e_x_167 => ?_)
          try simp (disch := omega) only [w32_of, w64_of, w8_of] at e_x_167
          have c243 := ii_kR_numberFrom hσ_165 0
          have c244 := ii_kR_numberFrom hσ_34 0
          have c245 := FR_at flσ_34 (c := kR_numberFrom) (by decide) 0
          have c246 := ii_kR_numberFrom hσ_33 0
          have c247 := ii_kR_numberTo hσ_165 0
          have c248 := ii_kR_numberTo hσ_34 0
          have c249 := sg_val eσ_34
          exact wp_some ⟨hσ_165, frσ_165, (by (try dsimp only) <;> first | assumption | omega | ((try simp (disch := omega) only [w32_of, w64_of, w8_of]) <;> first | assumption | omega | (split <;> omega) | (refine And.intro ?_ ?_ <;> split <;> omega)) | omega), (by (try dsimp only) <;> first | assumption | omega | ((try simp (disch := omega) only [w32_of, w64_of, w8_of]) <;> first | assumption | omega | (split <;> omega) | (refine And.intro ?_ ?_ <;> split <;> omega)) | omega), (by (try dsimp only) <;> first | assumption | omega | ((try simp (disch := omega) only [w32_of, w64_of, w8_of]) <;> first | assumption | omega | (split <;> omega) | (refine And.intro ?_ ?_ <;> split <;> omega)) | omega), (by (try dsimp only) <;> first | assumption | omega | ((try simp (disch := omega) only [w32_of, w64_of, w8_of]) <;> first | assumption | omega | (split <;> omega) | (refine And.intro ?_ ?_ <;> split <;> omega)) | omega), (by (try dsimp only) <;> first | assumption | omega | ((try simp (disch := omega) only [w32_of, w64_of, w8_of]) <;> first | assumption | omega | (split <;> omega) | (refine And.intro ?_ ?_ <;> split <;> omega)) | omega)⟩
        · try simp (disch := omega) only [w32_of, w64_of, w8_of, decide_eq_true_eq, decide_eq_false_iff_not, Bool.not_eq_true] at c158
          refine wp_somek ?_
          try dsimp only
          refine wp_ft ?_
          have c250 := ii_kR_numberFrom hσ_34 0
          have c251 := FR_at flσ_34 (c := kR_numberFrom) (by decide) 0
          have c252 := ii_kR_numberFrom hσ_33 0
          have c253 := ii_kR_numberTo hσ_34 0
          have c254 := sg_val eσ_34
          exact wp_some ⟨hσ_34, frσ_34, (by (try dsimp only) <;> first | assumption | omega | ((try simp (disch := omega) only [w32_of, w64_of, w8_of]) <;> first | assumption | omega | (split <;> omega) | (refine And.intro ?_ ?_ <;> split <;> omega)) | omega), (by (try dsimp only) <;> first | assumption | omega | ((try simp (disch := omega) only [w32_of, w64_of, w8_of]) <;> first | assumption | omega | (split <;> omega) | (refine And.intro ?_ ?_ <;> split <;> omega)) | omega), (by (try dsimp only) <;> first | assumption | omega | ((try simp (disch := omega) only [w32_of, w64_of, w8_of]) <;> first | assumption | omega | (split <;> omega) | (refine And.intro ?_ ?_ <;> split <;> omega)) | omega), (by (try dsimp only) <;> first | assumption | omega | ((try simp (disch := omega) only [w32_of, w64_of, w8_of]) <;> first | assumption | omega | (split <;> omega) | (refine And.intro ?_ ?_ <;> split <;> omega)) | omega), (by (try dsimp only) <;> first | assumption | omega | ((try simp (disch := omega) only [w32_of, w64_of, w8_of]) <;> first | assumption | omega | (split <;> omega) | (refine And.intro ?_ ?_ <;> split <;> omega)) | omega)⟩
    rintro ⟨good_185, power_186, σ_187⟩ _ y260
    try dsimp only at y260 ⊢
    obtain ⟨hσ_187, frσ_187, g255, g256, g257, g258, g259⟩ := y260
    refine wp_bd (v_here (σ := σ_187) hσ_187) ?_
    rintro x_189 - ⟨gr, gv, gw⟩
    try simp (disch := omega) only [w32_of, w64_of, w8_of] at gr
    try simp (disch := omega) only [w32_of, w64_of, w8_of] at gv
    have c261 := ii_kR_at hσ_187 0
    have c262 := ii_kR_size hσ_187 0
    have c263 := FR_at frσ_187 (c := kR_size) (by decide) 0
    try simp (disch := omega) only [w32_of, w64_of, w8_of] at gw
    have c264 := w32_rng x_189
    refine wp_lt (fun x_191 e_x_191 => ?_)
    try simp (disch := omega) only [w32_of, w64_of, w8_of] at e_x_191
    refine wp_if (fun c265 => ?_) (fun c265 => ?_)
    · try simp (disch := omega) only [w32_of, w64_of, w8_of, decide_eq_true_eq, decide_eq_false_iff_not, Bool.not_eq_true] at c265
      refine wp_bd (v_wrong (σ := σ_187) (kind_0 := 4) (where_0 := (σ kR_at 0)) hσ_187 (by (try dsimp only) <;> first | assumption | omega | ((try simp (disch := omega) only [w32_of, w64_of, w8_of]) <;> first | assumption | omega | (split <;> omega) | (refine And.intro ?_ ?_ <;> split <;> omega)) | omega) (by (try dsimp only) <;> first | assumption | omega | ((try simp (disch := omega) only [w32_of, w64_of, w8_of]) <;> first | assumption | omega | (split <;> omega) | (refine And.intro ?_ ?_ <;> split <;> omega)) | omega)) ?_
      rintro ⟨x_194, σ_193⟩ - y267
      try dsimp only at y267 ⊢
      obtain ⟨hσ_193, flσ_193, g266⟩ := y267
      have frσ_193 : FR [kR_at, kR_faultKind, kR_faultPlace, kR_numberFrom, kR_numberTo, kR_numberWhole, kR_value] σ σ_193 := FR_tr frσ_187 flσ_193 (by decide) (by decide)
      try simp (disch := omega) only [w32_of, w64_of, w8_of] at g266
      have c268 := ii_kR_at hσ_193 0
      have c269 := FR_at flσ_193 (c := kR_at) (by decide) 0
      have c270 := ii_kR_value hσ_193 0
      have c271 := FR_at flσ_193 (c := kR_value) (by decide) 0
      have c272 := ii_kR_value hσ_187 0
      exact wp_some ⟨hσ_193, frσ_193, (by (try dsimp only) <;> first | assumption | omega | ((try simp (disch := omega) only [w32_of, w64_of, w8_of]) <;> first | assumption | omega | (split <;> omega) | (refine And.intro ?_ ?_ <;> split <;> omega)) | omega), (by (try dsimp only) <;> first | assumption | omega | ((try simp (disch := omega) only [w32_of, w64_of, w8_of]) <;> first | assumption | omega | (split <;> omega) | (refine And.intro ?_ ?_ <;> split <;> omega)) | omega), (fun q => absurd (q.symm.trans g266) (by decide))⟩
    · try simp (disch := omega) only [w32_of, w64_of, w8_of, decide_eq_true_eq, decide_eq_false_iff_not, Bool.not_eq_true] at c265
      have c273 := ii_kR_numberWhole hσ_187 0
      have c274 := w32_rng (σ_187 kR_numberWhole 0)
      have c275 := ii_kR_digits hσ_187 0
      have c276 := FR_at frσ_187 (c := kR_digits) (by decide) 0
      have c277 := ii_kR_digits hσ 0
      have c278 := w32_rng (σ_187 kR_digits 0)
      have c279 := ii_kR_numberFrom hσ_187 0
      have c280 := ii_kR_numberTo hσ_187 0
      refine wp_bd (v_round (σ := σ_187) (ahead_0 := (((w32 (σ_187 kR_numberWhole 0)) + power_186) + (w32 (σ_187 kR_digits 0)))) hσ_187 (by intro i a b; rw [FR_at frσ_187 (c := kR_tape) (by decide)]; exact dg i (by omega) (by omega))) ?_
      rintro σ_196 - ⟨hσ_196, flσ_196, g281⟩
      have frσ_196 : FR [kR_at, kR_faultKind, kR_faultPlace, kR_numberFrom, kR_numberTo, kR_numberWhole, kR_value] σ σ_196 := FR_tr frσ_187 flσ_196 (by decide) (by decide)
      have c282 := ii_kR_value hσ_196 0
      try simp (disch := omega) only [w32_of, w64_of, w8_of] at g281
      have c284 := w64_rng (σ_196 kR_value 0)
      refine wp_if (fun c283 => ?_) (fun c283 => ?_)
      · try simp (disch := omega) only [w32_of, w64_of, w8_of, decide_eq_true_eq, decide_eq_false_iff_not, Bool.not_eq_true] at c283
        refine wp_bd (v_wrong (σ := σ_196) (kind_0 := 5) (where_0 := (σ kR_at 0)) hσ_196 (by (try dsimp only) <;> first | assumption | omega | ((try simp (disch := omega) only [w32_of, w64_of, w8_of]) <;> first | assumption | omega | (split <;> omega) | (refine And.intro ?_ ?_ <;> split <;> omega)) | omega) (by (try dsimp only) <;> first | assumption | omega | ((try simp (disch := omega) only [w32_of, w64_of, w8_of]) <;> first | assumption | omega | (split <;> omega) | (refine And.intro ?_ ?_ <;> split <;> omega)) | omega)) ?_
        rintro ⟨x_200, σ_199⟩ - y286
        try dsimp only at y286 ⊢
        obtain ⟨hσ_199, flσ_199, g285⟩ := y286
        have frσ_199 : FR [kR_at, kR_faultKind, kR_faultPlace, kR_numberFrom, kR_numberTo, kR_numberWhole, kR_value] σ σ_199 := FR_tr frσ_196 flσ_199 (by decide) (by decide)
        try simp (disch := omega) only [w32_of, w64_of, w8_of] at g285
        have c287 := ii_kR_at hσ_199 0
        have c288 := FR_at flσ_199 (c := kR_at) (by decide) 0
        have c289 := ii_kR_at hσ_196 0
        have c290 := FR_at flσ_196 (c := kR_at) (by decide) 0
        have c291 := ii_kR_value hσ_199 0
        have c292 := FR_at flσ_199 (c := kR_value) (by decide) 0
        exact wp_some ⟨hσ_199, frσ_199, (by (try dsimp only) <;> first | assumption | omega | ((try simp (disch := omega) only [w32_of, w64_of, w8_of]) <;> first | assumption | omega | (split <;> omega) | (refine And.intro ?_ ?_ <;> split <;> omega)) | omega), (by (try dsimp only) <;> first | assumption | omega | ((try simp (disch := omega) only [w32_of, w64_of, w8_of]) <;> first | assumption | omega | (split <;> omega) | (refine And.intro ?_ ?_ <;> split <;> omega)) | omega), (fun q => absurd (q.symm.trans g285) (by decide))⟩
      · try simp (disch := omega) only [w32_of, w64_of, w8_of, decide_eq_true_eq, decide_eq_false_iff_not, Bool.not_eq_true] at c283
        refine wp_wfI hσ_196 b_kR_value (by (try dsimp only) <;> first | assumption | omega | ((try simp (disch := omega) only [w32_of, w64_of, w8_of]) <;> first | assumption | omega | (split <;> omega) | (refine And.intro ?_ ?_ <;> split <;> omega)) | omega) (fun σ_202 hσ_202 eσ_202 => ?_)
        try simp (disch := omega) only [w32_of, w64_of, w8_of] at eσ_202
        have flσ_202 := FR_sg eσ_202
        have frσ_202 : FR [kR_at, kR_faultKind, kR_faultPlace, kR_numberFrom, kR_numberTo, kR_numberWhole, kR_value] σ σ_202 := FR_tr frσ_196 flσ_202 (by decide) (by decide)
        have c293 := ii_kR_at hσ_202 0
        have c294 := FR_at flσ_202 (c := kR_at) (by decide) 0
        have c295 := ii_kR_at hσ_196 0
        have c296 := FR_at flσ_196 (c := kR_at) (by decide) 0
        have c297 := ii_kR_value hσ_202 0
        have c298 := sg_val eσ_202
        exact wp_some ⟨hσ_202, frσ_202, (by (try dsimp only) <;> first | assumption | omega | ((try simp (disch := omega) only [w32_of, w64_of, w8_of]) <;> first | assumption | omega | (split <;> omega) | (refine And.intro ?_ ?_ <;> split <;> omega)) | omega), (by (try dsimp only) <;> first | assumption | omega | ((try simp (disch := omega) only [w32_of, w64_of, w8_of]) <;> first | assumption | omega | (split <;> omega) | (refine And.intro ?_ ?_ <;> split <;> omega)) | omega), (by intro q9; (try dsimp only) <;> first | assumption | omega | ((try simp (disch := omega) only [w32_of, w64_of, w8_of]) <;> first | assumption | omega | (split <;> omega) | (refine And.intro ?_ ?_ <;> split <;> omega)) | omega)⟩
theorem v_dot {σ : SG} {x_0 : Int} {y_0 : Int} (hσ : II σ) (qx_0 : (-9223372036854775808) ≤ x_0 ∧ x_0 ≤ 9223372036854775807) (qy_0 : (-9223372036854775808) ≤ y_0 ∧ y_0 ≤ 9223372036854775807) (w0 : (σ kR_pointMany 32) ≤ 2047) (w1 : ((-1000000000) ≤ x_0) ∧ (x_0 ≤ 1000000000)) (w2 : ((-1000000000) ≤ y_0) ∧ (y_0 ≤ 1000000000)) : wp_ (fR_dot σ x_0 y_0) (fun zz_ => II zz_ ∧ FR [kR_pointMany, kR_xs, kR_ys] σ zz_ ∧ NF σ zz_ ∧ ((zz_ kR_pointMany 32) = (σ kR_pointMany 32) + 1)) := by
  unfold fR_dot
  have c1 := ii_kR_pointMany hσ 32
  refine wp_rdI (by (try dsimp only) <;> first | assumption | omega | ((try simp (disch := omega) only [w32_of, w64_of, w8_of]) <;> first | assumption | omega | (split <;> omega) | (refine And.intro ?_ ?_ <;> split <;> omega)) | omega) (by (try dsimp only) <;> first | assumption | omega | ((try simp (disch := omega) only [w32_of, w64_of, w8_of]) <;> first | assumption | omega | (split <;> omega) | (refine And.intro ?_ ?_ <;> split <;> omega)) | omega) (fun x_1 e_x_1 => ?_)
  have b_x_1 : 0 ≤ x_1 ∧ x_1 ≤ 2048 := by rw [e_x_1]; exact ii_kR_pointMany hσ _
  try simp (disch := omega) only [w32_of, w64_of, w8_of] at e_x_1
  have c2 := w32_rng (65536 + x_1)
  refine wp_waI hσ b_kR_xs (by (try dsimp only) <;> first | assumption | omega | ((try simp (disch := omega) only [w32_of, w64_of, w8_of]) <;> first | assumption | omega | (split <;> omega) | (refine And.intro ?_ ?_ <;> split <;> omega)) | omega) (by (try dsimp only) <;> first | assumption | omega | ((try simp (disch := omega) only [w32_of, w64_of, w8_of]) <;> first | assumption | omega | (split <;> omega) | (refine And.intro ?_ ?_ <;> split <;> omega)) | omega) (by (try dsimp only) <;> first | assumption | omega | ((try simp (disch := omega) only [w32_of, w64_of, w8_of]) <;> first | assumption | omega | (split <;> omega) | (refine And.intro ?_ ?_ <;> split <;> omega)) | omega) (fun σ_3 hσ_3 eσ_3 => ?_)
  try simp (disch := omega) only [w32_of, w64_of, w8_of] at eσ_3
  have flσ_3 := FR_sg eσ_3
  have frσ_3 : FR [kR_pointMany, kR_xs, kR_ys] σ σ_3 := FR_le flσ_3 (by decide)
  have nfσ_3 : NF σ σ_3 := NF_tr (NF_refl _) (NF_xs eσ_3 (by (try dsimp only) <;> first | assumption | omega | ((try simp (disch := omega) only [w32_of, w64_of, w8_of]) <;> first | assumption | omega | (split <;> omega) | (refine And.intro ?_ ?_ <;> split <;> omega)) | omega))
  refine wp_rdI (by (try dsimp only) <;> first | assumption | omega | ((try simp (disch := omega) only [w32_of, w64_of, w8_of]) <;> first | assumption | omega | (split <;> omega) | (refine And.intro ?_ ?_ <;> split <;> omega)) | omega) (by (try dsimp only) <;> first | assumption | omega | ((try simp (disch := omega) only [w32_of, w64_of, w8_of]) <;> first | assumption | omega | (split <;> omega) | (refine And.intro ?_ ?_ <;> split <;> omega)) | omega) (fun x_5 e_x_5 => ?_)
  have b_x_5 : 0 ≤ x_5 ∧ x_5 ≤ 2048 := by rw [e_x_5]; exact ii_kR_pointMany hσ_3 _
  try simp (disch := omega) only [w32_of, w64_of, w8_of] at e_x_5
  have c3 := ii_kR_pointMany hσ_3 32
  have c4 := FR_at flσ_3 (c := kR_pointMany) (by decide) 32
  have c5 := w32_rng (65536 + x_5)
  refine wp_waI hσ_3 b_kR_ys (by (try dsimp only) <;> first | assumption | omega | ((try simp (disch := omega) only [w32_of, w64_of, w8_of]) <;> first | assumption | omega | (split <;> omega) | (refine And.intro ?_ ?_ <;> split <;> omega)) | omega) (by (try dsimp only) <;> first | assumption | omega | ((try simp (disch := omega) only [w32_of, w64_of, w8_of]) <;> first | assumption | omega | (split <;> omega) | (refine And.intro ?_ ?_ <;> split <;> omega)) | omega) (by (try dsimp only) <;> first | assumption | omega | ((try simp (disch := omega) only [w32_of, w64_of, w8_of]) <;> first | assumption | omega | (split <;> omega) | (refine And.intro ?_ ?_ <;> split <;> omega)) | omega) (fun σ_7 hσ_7 eσ_7 => ?_)
  try simp (disch := omega) only [w32_of, w64_of, w8_of] at eσ_7
  have flσ_7 := FR_sg eσ_7
  have frσ_7 : FR [kR_pointMany, kR_xs, kR_ys] σ σ_7 := FR_tr frσ_3 flσ_7 (by decide) (by decide)
  have nfσ_7 : NF σ σ_7 := NF_tr nfσ_3 (NF_ys eσ_7 (by (try dsimp only) <;> first | assumption | omega | ((try simp (disch := omega) only [w32_of, w64_of, w8_of]) <;> first | assumption | omega | (split <;> omega) | (refine And.intro ?_ ?_ <;> split <;> omega)) | omega))
  refine wp_rdI (by (try dsimp only) <;> first | assumption | omega | ((try simp (disch := omega) only [w32_of, w64_of, w8_of]) <;> first | assumption | omega | (split <;> omega) | (refine And.intro ?_ ?_ <;> split <;> omega)) | omega) (by (try dsimp only) <;> first | assumption | omega | ((try simp (disch := omega) only [w32_of, w64_of, w8_of]) <;> first | assumption | omega | (split <;> omega) | (refine And.intro ?_ ?_ <;> split <;> omega)) | omega) (fun x_9 e_x_9 => ?_)
  have b_x_9 : 0 ≤ x_9 ∧ x_9 ≤ 2048 := by rw [e_x_9]; exact ii_kR_pointMany hσ_7 _
  try simp (disch := omega) only [w32_of, w64_of, w8_of] at e_x_9
  have c6 := ii_kR_pointMany hσ_7 32
  have c7 := FR_at flσ_7 (c := kR_pointMany) (by decide) 32
  refine wp_waI hσ_7 b_kR_pointMany (by (try dsimp only) <;> first | assumption | omega | ((try simp (disch := omega) only [w32_of, w64_of, w8_of]) <;> first | assumption | omega | (split <;> omega) | (refine And.intro ?_ ?_ <;> split <;> omega)) | omega) (by (try dsimp only) <;> first | assumption | omega | ((try simp (disch := omega) only [w32_of, w64_of, w8_of]) <;> first | assumption | omega | (split <;> omega) | (refine And.intro ?_ ?_ <;> split <;> omega)) | omega) (by (try dsimp only) <;> first | assumption | omega | ((try simp (disch := omega) only [w32_of, w64_of, w8_of]) <;> first | assumption | omega | (split <;> omega) | (refine And.intro ?_ ?_ <;> split <;> omega)) | omega) (fun σ_11 hσ_11 eσ_11 => ?_)
  try simp (disch := omega) only [w32_of, w64_of, w8_of] at eσ_11
  have flσ_11 := FR_sg eσ_11
  have frσ_11 : FR [kR_pointMany, kR_xs, kR_ys] σ σ_11 := FR_tr frσ_7 flσ_11 (by decide) (by decide)
  have nfσ_11 : NF σ σ_11 := NF_tr nfσ_7 (NF_pointMany eσ_11)
  have c8 := ii_kR_pointMany hσ_11 32
  have c9 := sg_val eσ_11
  exact wp_some ⟨hσ_11, frσ_11, nfσ_11, (by (try dsimp only) <;> first | assumption | omega | ((try simp (disch := omega) only [w32_of, w64_of, w8_of]) <;> first | assumption | omega | (split <;> omega) | (refine And.intro ?_ ?_ <;> split <;> omega)) | omega)⟩
theorem v_coordinate {σ : SG} (hσ : II σ) (w0 : σ kR_at 0 ≤ σ kR_size 0) : wp_ (fR_coordinate σ) (fun zz_ => II zz_.2 ∧ FR [kR_at, kR_faultKind, kR_faultPlace, kR_numberFrom, kR_numberTo, kR_numberWhole, kR_pointMany, kR_value, kR_xs, kR_ys] σ zz_.2 ∧ NF σ zz_.2 ∧ (σ kR_at 0 ≤ zz_.2 kR_at 0) ∧ (zz_.2 kR_at 0 ≤ σ kR_size 0) ∧ ((zz_.1 = true) → zz_.2 kR_pointMany 32 = σ kR_pointMany 32 + 1)) := by
  unfold fR_coordinate
  have c1 := ii_kR_at hσ 0
  have c2 := ii_kR_size hσ 0
  refine wp_bd (v_skip (σ := σ) hσ (by (try dsimp only) <;> first | assumption | omega | ((try simp (disch := omega) only [w32_of, w64_of, w8_of]) <;> first | assumption | omega | (split <;> omega) | (refine And.intro ?_ ?_ <;> split <;> omega)) | omega)) ?_
  rintro σ_2 - ⟨hσ_2, flσ_2, g3, g4⟩
  have frσ_2 : FR [kR_at, kR_faultKind, kR_faultPlace, kR_numberFrom, kR_numberTo, kR_numberWhole, kR_pointMany, kR_value, kR_xs, kR_ys] σ σ_2 := FR_le flσ_2 (by decide)
  have nfσ_2 : NF σ σ_2 := NF_fr (NF_refl _) flσ_2 (by decide)
  have c5 := ii_kR_at hσ_2 0
  try simp (disch := omega) only [w32_of, w64_of, w8_of] at g3
  try simp (disch := omega) only [w32_of, w64_of, w8_of] at g4
  refine wp_rdI (by (try dsimp only) <;> first | assumption | omega | ((try simp (disch := omega) only [w32_of, w64_of, w8_of]) <;> first | assumption | omega | (split <;> omega) | (refine And.intro ?_ ?_ <;> split <;> omega)) | omega) (by (try dsimp only) <;> first | assumption | omega | ((try simp (disch := omega) only [w32_of, w64_of, w8_of]) <;> first | assumption | omega | (split <;> omega) | (refine And.intro ?_ ?_ <;> split <;> omega)) | omega) (fun x_3 e_x_3 => ?_)
  have b_x_3 : 0 ≤ x_3 ∧ x_3 ≤ 2048 := by rw [e_x_3]; exact ii_kR_pointMany hσ_2 _
  try simp (disch := omega) only [w32_of, w64_of, w8_of] at e_x_3
  have c6 := ii_kR_pointMany hσ_2 32
  have c7 := FR_at flσ_2 (c := kR_pointMany) (by decide) 32
  have c8 := ii_kR_pointMany hσ 32
  have c10 := w32_rng x_3
  refine wp_if (fun c9 => ?_) (fun c9 => ?_)
  · try simp (disch := omega) only [w32_of, w64_of, w8_of, decide_eq_true_eq, decide_eq_false_iff_not, Bool.not_eq_true] at c9
    refine wp_bd (v_wrong (σ := σ_2) (kind_0 := 7) (where_0 := (σ_2 kR_at 0)) hσ_2 (by (try dsimp only) <;> first | assumption | omega | ((try simp (disch := omega) only [w32_of, w64_of, w8_of]) <;> first | assumption | omega | (split <;> omega) | (refine And.intro ?_ ?_ <;> split <;> omega)) | omega) (by (try dsimp only) <;> first | assumption | omega | ((try simp (disch := omega) only [w32_of, w64_of, w8_of]) <;> first | assumption | omega | (split <;> omega) | (refine And.intro ?_ ?_ <;> split <;> omega)) | omega)) ?_
    rintro ⟨x_8, σ_7⟩ - y12
    try dsimp only at y12 ⊢
    obtain ⟨hσ_7, flσ_7, g11⟩ := y12
    have frσ_7 : FR [kR_at, kR_faultKind, kR_faultPlace, kR_numberFrom, kR_numberTo, kR_numberWhole, kR_pointMany, kR_value, kR_xs, kR_ys] σ σ_7 := FR_tr frσ_2 flσ_7 (by decide) (by decide)
    have nfσ_7 : NF σ σ_7 := NF_fr nfσ_2 flσ_7 (by decide)
    try simp (disch := omega) only [w32_of, w64_of, w8_of] at g11
    have c13 := ii_kR_at hσ_7 0
    have c14 := FR_at flσ_7 (c := kR_at) (by decide) 0
    have c15 := ii_kR_pointMany hσ_7 32
    have c16 := FR_at flσ_7 (c := kR_pointMany) (by decide) 32
    exact wp_some ⟨hσ_7, frσ_7, nfσ_7, (by (try dsimp only) <;> first | assumption | omega | ((try simp (disch := omega) only [w32_of, w64_of, w8_of]) <;> first | assumption | omega | (split <;> omega) | (refine And.intro ?_ ?_ <;> split <;> omega)) | omega), (by (try dsimp only) <;> first | assumption | omega | ((try simp (disch := omega) only [w32_of, w64_of, w8_of]) <;> first | assumption | omega | (split <;> omega) | (refine And.intro ?_ ?_ <;> split <;> omega)) | omega), (fun q => absurd (q.symm.trans g11) (by decide))⟩
  · try simp (disch := omega) only [w32_of, w64_of, w8_of, decide_eq_true_eq, decide_eq_false_iff_not, Bool.not_eq_true] at c9
    have c17 := ii_kR_size hσ_2 0
    have c18 := FR_at flσ_2 (c := kR_size) (by decide) 0
    refine wp_bd (v_number (σ := σ_2) hσ_2 (by (try dsimp only) <;> first | assumption | omega | ((try simp (disch := omega) only [w32_of, w64_of, w8_of]) <;> first | assumption | omega | (split <;> omega) | (refine And.intro ?_ ?_ <;> split <;> omega)) | omega)) ?_
    rintro ⟨x_11, σ_10⟩ - y22
    try dsimp only at y22 ⊢
    obtain ⟨hσ_10, flσ_10, g19, g20, g21⟩ := y22
    have frσ_10 : FR [kR_at, kR_faultKind, kR_faultPlace, kR_numberFrom, kR_numberTo, kR_numberWhole, kR_pointMany, kR_value, kR_xs, kR_ys] σ σ_10 := FR_tr frσ_2 flσ_10 (by decide) (by decide)
    have nfσ_10 : NF σ σ_10 := NF_fr nfσ_2 flσ_10 (by decide)
    have c23 := ii_kR_at hσ_10 0
    try simp (disch := omega) only [w32_of, w64_of, w8_of] at g19
    try simp (disch := omega) only [w32_of, w64_of, w8_of] at g20
    have c24 := ii_kR_value hσ_10 0
    try simp (disch := omega) only [w32_of, w64_of, w8_of] at g21
    refine wp_if (fun c25 => ?_) (fun c25 => ?_)
    · have k26 := g21 c25
      try simp (disch := omega) only [w32_of, w64_of, w8_of] at k26
      try simp (disch := omega) only [w32_of, w64_of, w8_of, decide_eq_true_eq, decide_eq_false_iff_not, Bool.not_eq_true] at c25
      refine wp_bd (v_here (σ := σ_10) hσ_10) ?_
      rintro x_14 - ⟨g27, g28, g29⟩
      try simp (disch := omega) only [w32_of, w64_of, w8_of] at g27
      try simp (disch := omega) only [w32_of, w64_of, w8_of] at g28
      have c30 := ii_kR_size hσ_10 0
      have c31 := FR_at flσ_10 (c := kR_size) (by decide) 0
      try simp (disch := omega) only [w32_of, w64_of, w8_of] at g29
      refine wp_if (fun c32 => ?_) (fun c32 => ?_)
      · try simp (disch := omega) only [w32_of, w64_of, w8_of, decide_eq_true_eq, decide_eq_false_iff_not, Bool.not_eq_true, fR_isBlank] at c32
        refine wp_bd (v_skip (σ := σ_10) hσ_10 (by (try dsimp only) <;> first | assumption | omega | ((try simp (disch := omega) only [w32_of, w64_of, w8_of]) <;> first | assumption | omega | (split <;> omega) | (refine And.intro ?_ ?_ <;> split <;> omega)) | omega)) ?_
        rintro σ_17 - ⟨hσ_17, flσ_17, g33, g34⟩
        have frσ_17 : FR [kR_at, kR_faultKind, kR_faultPlace, kR_numberFrom, kR_numberTo, kR_numberWhole, kR_pointMany, kR_value, kR_xs, kR_ys] σ σ_17 := FR_tr frσ_10 flσ_17 (by decide) (by decide)
        have nfσ_17 : NF σ σ_17 := NF_fr nfσ_10 flσ_17 (by decide)
        have c35 := ii_kR_at hσ_17 0
        try simp (disch := omega) only [w32_of, w64_of, w8_of] at g33
        try simp (disch := omega) only [w32_of, w64_of, w8_of] at g34
        have c36 := ii_kR_size hσ_17 0
        have c37 := FR_at flσ_17 (c := kR_size) (by decide) 0
        refine wp_bd (v_number (σ := σ_17) hσ_17 (by (try dsimp only) <;> first | assumption | omega | ((try simp (disch := omega) only [w32_of, w64_of, w8_of]) <;> first | assumption | omega | (split <;> omega) | (refine And.intro ?_ ?_ <;> split <;> omega)) | omega)) ?_
        rintro ⟨x_20, σ_19⟩ - y41
        try dsimp only at y41 ⊢
        obtain ⟨hσ_19, flσ_19, g38, g39, g40⟩ := y41
        have frσ_19 : FR [kR_at, kR_faultKind, kR_faultPlace, kR_numberFrom, kR_numberTo, kR_numberWhole, kR_pointMany, kR_value, kR_xs, kR_ys] σ σ_19 := FR_tr frσ_17 flσ_19 (by decide) (by decide)
        have nfσ_19 : NF σ σ_19 := NF_fr nfσ_17 flσ_19 (by decide)
        have c42 := ii_kR_at hσ_19 0
        try simp (disch := omega) only [w32_of, w64_of, w8_of] at g38
        try simp (disch := omega) only [w32_of, w64_of, w8_of] at g39
        have c43 := ii_kR_value hσ_19 0
        try simp (disch := omega) only [w32_of, w64_of, w8_of] at g40
        refine wp_if (fun c44 => ?_) (fun c44 => ?_)
        · have k45 := g40 c44
          try simp (disch := omega) only [w32_of, w64_of, w8_of] at k45
          try simp (disch := omega) only [w32_of, w64_of, w8_of, decide_eq_true_eq, decide_eq_false_iff_not, Bool.not_eq_true] at c44
          have c46 := ii_kR_pointMany hσ_19 32
          have c47 := FR_at flσ_19 (c := kR_pointMany) (by decide) 32
          have c48 := ii_kR_pointMany hσ_17 32
          have c49 := FR_at flσ_17 (c := kR_pointMany) (by decide) 32
          have c50 := ii_kR_pointMany hσ_10 32
          have c51 := FR_at flσ_10 (c := kR_pointMany) (by decide) 32
          refine wp_bd (v_dot (σ := σ_19) (x_0 := (σ_10 kR_value 0)) (y_0 := (σ_19 kR_value 0)) hσ_19 (by (try dsimp only) <;> first | assumption | omega | ((try simp (disch := omega) only [w32_of, w64_of, w8_of]) <;> first | assumption | omega | (split <;> omega) | (refine And.intro ?_ ?_ <;> split <;> omega)) | omega) (by (try dsimp only) <;> first | assumption | omega | ((try simp (disch := omega) only [w32_of, w64_of, w8_of]) <;> first | assumption | omega | (split <;> omega) | (refine And.intro ?_ ?_ <;> split <;> omega)) | omega) (by (try dsimp only) <;> first | assumption | omega | ((try simp (disch := omega) only [w32_of, w64_of, w8_of]) <;> first | assumption | omega | (split <;> omega) | (refine And.intro ?_ ?_ <;> split <;> omega)) | omega) (by (try dsimp only) <;> first | assumption | omega | ((try simp (disch := omega) only [w32_of, w64_of, w8_of]) <;> first | assumption | omega | (split <;> omega) | (refine And.intro ?_ ?_ <;> split <;> omega)) | omega) (by (try dsimp only) <;> first | assumption | omega | ((try simp (disch := omega) only [w32_of, w64_of, w8_of]) <;> first | assumption | omega | (split <;> omega) | (refine And.intro ?_ ?_ <;> split <;> omega)) | omega)) ?_
          rintro σ_23 - ⟨hσ_23, flσ_23, ngσ_23, g52⟩
          have frσ_23 : FR [kR_at, kR_faultKind, kR_faultPlace, kR_numberFrom, kR_numberTo, kR_numberWhole, kR_pointMany, kR_value, kR_xs, kR_ys] σ σ_23 := FR_tr frσ_19 flσ_23 (by decide) (by decide)
          have nfσ_23 : NF σ σ_23 := NF_tr nfσ_19 ngσ_23
          have c53 := ii_kR_pointMany hσ_23 32
          try simp (disch := omega) only [w32_of, w64_of, w8_of] at g52
          have c54 := ii_kR_at hσ_23 0
          have c55 := FR_at flσ_23 (c := kR_at) (by decide) 0
          exact wp_some ⟨hσ_23, frσ_23, nfσ_23, (by (try dsimp only) <;> first | assumption | omega | ((try simp (disch := omega) only [w32_of, w64_of, w8_of]) <;> first | assumption | omega | (split <;> omega) | (refine And.intro ?_ ?_ <;> split <;> omega)) | omega), (by (try dsimp only) <;> first | assumption | omega | ((try simp (disch := omega) only [w32_of, w64_of, w8_of]) <;> first | assumption | omega | (split <;> omega) | (refine And.intro ?_ ?_ <;> split <;> omega)) | omega), (by intro q9; (try dsimp only) <;> first | assumption | omega | ((try simp (disch := omega) only [w32_of, w64_of, w8_of]) <;> first | assumption | omega | (split <;> omega) | (refine And.intro ?_ ?_ <;> split <;> omega)) | omega)⟩
        · try simp (disch := omega) only [w32_of, w64_of, w8_of, decide_eq_true_eq, decide_eq_false_iff_not, Bool.not_eq_true] at c44
          have c57 := ii_kR_pointMany hσ_19 32
          have c58 := FR_at flσ_19 (c := kR_pointMany) (by decide) 32
          have c59 := ii_kR_pointMany hσ_17 32
          have c60 := FR_at flσ_17 (c := kR_pointMany) (by decide) 32
          have c61 := ii_kR_pointMany hσ_10 32
          have c62 := FR_at flσ_10 (c := kR_pointMany) (by decide) 32
          exact wp_some ⟨hσ_19, frσ_19, nfσ_19, (by (try dsimp only) <;> first | assumption | omega | ((try simp (disch := omega) only [w32_of, w64_of, w8_of]) <;> first | assumption | omega | (split <;> omega) | (refine And.intro ?_ ?_ <;> split <;> omega)) | omega), (by (try dsimp only) <;> first | assumption | omega | ((try simp (disch := omega) only [w32_of, w64_of, w8_of]) <;> first | assumption | omega | (split <;> omega) | (refine And.intro ?_ ?_ <;> split <;> omega)) | omega), (fun q => (by cases q))⟩
      · try simp (disch := omega) only [w32_of, w64_of, w8_of, decide_eq_true_eq, decide_eq_false_iff_not, Bool.not_eq_true, fR_isBlank] at c32
        refine wp_bd (v_strange (σ := σ_10) (word_0 := false) hσ_10) ?_
        rintro ⟨x_26, σ_25⟩ - y64
        try dsimp only at y64 ⊢
        obtain ⟨hσ_25, flσ_25, g63⟩ := y64
        have frσ_25 : FR [kR_at, kR_faultKind, kR_faultPlace, kR_numberFrom, kR_numberTo, kR_numberWhole, kR_pointMany, kR_value, kR_xs, kR_ys] σ σ_25 := FR_tr frσ_10 flσ_25 (by decide) (by decide)
        have nfσ_25 : NF σ σ_25 := NF_fr nfσ_10 flσ_25 (by decide)
        try simp (disch := omega) only [w32_of, w64_of, w8_of] at g63
        have c65 := ii_kR_at hσ_25 0
        have c66 := FR_at flσ_25 (c := kR_at) (by decide) 0
        have c67 := ii_kR_pointMany hσ_25 32
        have c68 := FR_at flσ_25 (c := kR_pointMany) (by decide) 32
        have c69 := ii_kR_pointMany hσ_10 32
        have c70 := FR_at flσ_10 (c := kR_pointMany) (by decide) 32
        exact wp_some ⟨hσ_25, frσ_25, nfσ_25, (by (try dsimp only) <;> first | assumption | omega | ((try simp (disch := omega) only [w32_of, w64_of, w8_of]) <;> first | assumption | omega | (split <;> omega) | (refine And.intro ?_ ?_ <;> split <;> omega)) | omega), (by (try dsimp only) <;> first | assumption | omega | ((try simp (disch := omega) only [w32_of, w64_of, w8_of]) <;> first | assumption | omega | (split <;> omega) | (refine And.intro ?_ ?_ <;> split <;> omega)) | omega), (fun q => absurd (q.symm.trans g63) (by decide))⟩
    · try simp (disch := omega) only [w32_of, w64_of, w8_of, decide_eq_true_eq, decide_eq_false_iff_not, Bool.not_eq_true] at c25
      have c72 := ii_kR_pointMany hσ_10 32
      have c73 := FR_at flσ_10 (c := kR_pointMany) (by decide) 32
      exact wp_some ⟨hσ_10, frσ_10, nfσ_10, (by (try dsimp only) <;> first | assumption | omega | ((try simp (disch := omega) only [w32_of, w64_of, w8_of]) <;> first | assumption | omega | (split <;> omega) | (refine And.intro ?_ ?_ <;> split <;> omega)) | omega), (by (try dsimp only) <;> first | assumption | omega | ((try simp (disch := omega) only [w32_of, w64_of, w8_of]) <;> first | assumption | omega | (split <;> omega) | (refine And.intro ?_ ?_ <;> split <;> omega)) | omega), (fun q => (by cases q))⟩
theorem v_row {σ : SG} {number_0 : Int} (hσ : II σ) (qnumber_0 : (-1) ≤ number_0 ∧ number_0 ≤ 2048) (w0 : σ kR_at 0 ≤ σ kR_size 0) (w1 : 0 ≤ number_0 ∧ number_0 ≤ 2047) (w2 : σ kR_plan (65536 + number_0) = 0) : wp_ (fR_row σ number_0) (fun zz_ => II zz_.2 ∧ FR [kR_at, kR_faultKind, kR_faultPlace, kR_numberFrom, kR_numberTo, kR_numberWhole, kR_plan, kR_pointMany, kR_value, kR_xs, kR_ys] σ zz_.2 ∧ NF σ zz_.2 ∧ (σ kR_at 0 ≤ zz_.2 kR_at 0) ∧ (zz_.2 kR_at 0 ≤ σ kR_size 0) ∧ ((zz_.1 = true) → (1 ≤ zz_.2 kR_plan (65536 + number_0) ∧ zz_.2 kR_plan (65536 + number_0) = zz_.2 kR_pointMany 32 - σ kR_pointMany 32)) ∧ (∀ i, i ≠ 65536 + number_0 → zz_.2 kR_plan i = σ kR_plan i)) := by
  unfold fR_row
  have c1 := ii_kR_at hσ 0
  have c2 := ii_kR_size hσ 0
  refine wp_bx (P := fun rr_ => ((-1) ≤ rr_.1 ∧ rr_.1 ≤ 0) ∧ II rr_.2 ∧ FR [kR_at, kR_faultKind, kR_faultPlace, kR_numberFrom, kR_numberTo, kR_numberWhole, kR_plan, kR_pointMany, kR_value, kR_xs, kR_ys] σ rr_.2 ∧ NF σ rr_.2 ∧ (σ kR_at 0 ≤ rr_.2 kR_at 0) ∧ (rr_.2 kR_at 0 ≤ σ kR_size 0) ∧ (rr_.2 kR_plan (65536 + number_0) = rr_.2 kR_pointMany 32 - σ kR_pointMany 32) ∧ (rr_.1 = 1 ∨ σ kR_pointMany 32 + 1 ≤ rr_.2 kR_pointMany 32) ∧ (∀ i, i ≠ 65536 + number_0 → rr_.2 kR_plan i = σ kR_plan i)) ?_ ?_
  · have c3 := ii_kR_pointMany hσ 32
    refine wp_whl (fun ss_ => ((-1) ≤ ss_.1 ∧ ss_.1 ≤ 1) ∧ II ss_.2 ∧ FR [kR_at, kR_faultKind, kR_faultPlace, kR_numberFrom, kR_numberTo, kR_numberWhole, kR_plan, kR_pointMany, kR_value, kR_xs, kR_ys] σ ss_.2 ∧ NF σ ss_.2 ∧ (σ kR_at 0 ≤ ss_.2 kR_at 0) ∧ (ss_.2 kR_at 0 ≤ σ kR_size 0) ∧ (ss_.2 kR_plan (65536 + number_0) = ss_.2 kR_pointMany 32 - σ kR_pointMany 32) ∧ (σ kR_pointMany 32 ≤ ss_.2 kR_pointMany 32) ∧ (ss_.1 = 1 ∨ σ kR_pointMany 32 + 1 ≤ ss_.2 kR_pointMany 32) ∧ (∀ i, i ≠ 65536 + number_0 → ss_.2 kR_plan i = σ kR_plan i)) (fun ss_ => (2 * (65536 - ss_.2 kR_at 0) + ss_.1 + 1).toNat) ⟨(by (try dsimp only) <;> first | assumption | omega | ((try simp (disch := omega) only [w32_of, w64_of, w8_of]) <;> first | assumption | omega | (split <;> omega) | (refine And.intro ?_ ?_ <;> split <;> omega)) | omega), hσ, (FR_refl _ _), (NF_refl _), (by (try dsimp only) <;> first | assumption | omega | ((try simp (disch := omega) only [w32_of, w64_of, w8_of]) <;> first | assumption | omega | (split <;> omega) | (refine And.intro ?_ ?_ <;> split <;> omega)) | omega), (by (try dsimp only) <;> first | assumption | omega | ((try simp (disch := omega) only [w32_of, w64_of, w8_of]) <;> first | assumption | omega | (split <;> omega) | (refine And.intro ?_ ?_ <;> split <;> omega)) | omega), (by (try dsimp only) <;> first | assumption | omega | ((try simp (disch := omega) only [w32_of, w64_of, w8_of]) <;> first | assumption | omega | (split <;> omega) | (refine And.intro ?_ ?_ <;> split <;> omega)) | omega), (by (try dsimp only) <;> first | assumption | omega | ((try simp (disch := omega) only [w32_of, w64_of, w8_of]) <;> first | assumption | omega | (split <;> omega) | (refine And.intro ?_ ?_ <;> split <;> omega)) | omega), (by (try dsimp only) <;> first | assumption | omega | ((try simp (disch := omega) only [w32_of, w64_of, w8_of]) <;> first | assumption | omega | (split <;> omega) | (refine And.intro ?_ ?_ <;> split <;> omega)) | omega), (by (try dsimp only) <;> (first | exact gn | (intro i hi; rfl) | (intro i hi; rw [FR_at flσ_18 (c := kR_plan) (by decide), gm2 i hi, FR_at flσ_12 (c := kR_plan) (by decide)]; exact gn i hi)))⟩ ?_
    rintro ⟨on_1, σ_2⟩ y10
    try dsimp only at y10 ⊢
    obtain ⟨g4, hσ_2, frσ_2, nfσ_2, g5, g6, g7, g8, g9, gn⟩ := y10
    have c12 := w32_rng on_1
    refine wp_if (fun c11 => ?_) (fun c11 => ?_)
    · try simp (disch := omega) only [w32_of, w64_of, w8_of, decide_eq_true_eq, decide_eq_false_iff_not, Bool.not_eq_true] at c11
      have c13 := ii_kR_at hσ_2 0
      have c14 := ii_kR_size hσ_2 0
      have c15 := FR_at frσ_2 (c := kR_size) (by decide) 0
      refine wp_bd (v_coordinate (σ := σ_2) hσ_2 (by (try dsimp only) <;> first | assumption | omega | ((try simp (disch := omega) only [w32_of, w64_of, w8_of]) <;> first | assumption | omega | (split <;> omega) | (refine And.intro ?_ ?_ <;> split <;> omega)) | omega)) ?_
      rintro ⟨x_13, σ_12⟩ - y19
      try dsimp only at y19 ⊢
      obtain ⟨hσ_12, flσ_12, ngσ_12, g16, g17, g18⟩ := y19
      have frσ_12 : FR [kR_at, kR_faultKind, kR_faultPlace, kR_numberFrom, kR_numberTo, kR_numberWhole, kR_plan, kR_pointMany, kR_value, kR_xs, kR_ys] σ σ_12 := FR_tr frσ_2 flσ_12 (by decide) (by decide)
      have nfσ_12 : NF σ σ_12 := NF_tr nfσ_2 ngσ_12
      have c20 := ii_kR_at hσ_12 0
      try simp (disch := omega) only [w32_of, w64_of, w8_of] at g16
      try simp (disch := omega) only [w32_of, w64_of, w8_of] at g17
      have c21 := ii_kR_pointMany hσ_12 32
      have c22 := ii_kR_pointMany hσ_2 32
      try simp (disch := omega) only [w32_of, w64_of, w8_of] at g18
      refine wp_if (fun c23 => ?_) (fun c23 => ?_)
      · have k24 := g18 c23
        try simp (disch := omega) only [w32_of, w64_of, w8_of] at k24
        try simp (disch := omega) only [w32_of, w64_of, w8_of, decide_eq_true_eq, decide_eq_false_iff_not, Bool.not_eq_true] at c23
        refine wp_bd (v_more (σ := σ_12) (number_0 := number_0) hσ_12 (by (try dsimp only) <;> first | assumption | omega | ((try simp (disch := omega) only [w32_of, w64_of, w8_of]) <;> first | assumption | omega | (split <;> omega) | (refine And.intro ?_ ?_ <;> split <;> omega)) | omega) (by (try dsimp only) <;> first | assumption | omega | ((try simp (disch := omega) only [w32_of, w64_of, w8_of]) <;> first | assumption | omega | (split <;> omega) | (refine And.intro ?_ ?_ <;> split <;> omega)) | omega)) ?_
        rintro σ_16 - ⟨hσ_16, flσ_16, ngσ_16, gm1, gm2⟩
        have frσ_16 : FR [kR_at, kR_faultKind, kR_faultPlace, kR_numberFrom, kR_numberTo, kR_numberWhole, kR_plan, kR_pointMany, kR_value, kR_xs, kR_ys] σ σ_16 := FR_tr frσ_12 flσ_16 (by decide) (by decide)
        have nfσ_16 : NF σ σ_16 := NF_tr nfσ_12 ngσ_16
        have c25 := FR_at flσ_12 (c := kR_plan) (by decide) (65536 + number_0)
        try simp (disch := omega) only [w32_of, w64_of, w8_of] at gm1
        try simp (disch := omega) only [w32_of, w64_of, w8_of] at gm2
        have c26 := ii_kR_at hσ_16 0
        have c27 := FR_at flσ_16 (c := kR_at) (by decide) 0
        have c28 := ii_kR_size hσ_16 0
        have c29 := FR_at flσ_16 (c := kR_size) (by decide) 0
        have c30 := ii_kR_size hσ_12 0
        have c31 := FR_at flσ_12 (c := kR_size) (by decide) 0
        refine wp_bd (v_goesOn (σ := σ_16) hσ_16 (by (try dsimp only) <;> first | assumption | omega | ((try simp (disch := omega) only [w32_of, w64_of, w8_of]) <;> first | assumption | omega | (split <;> omega) | (refine And.intro ?_ ?_ <;> split <;> omega)) | omega)) ?_
        rintro ⟨x_19, σ_18⟩ - y36
        try dsimp only at y36 ⊢
        obtain ⟨g32, hσ_18, flσ_18, g33, g34, g35⟩ := y36
        have frσ_18 : FR [kR_at, kR_faultKind, kR_faultPlace, kR_numberFrom, kR_numberTo, kR_numberWhole, kR_plan, kR_pointMany, kR_value, kR_xs, kR_ys] σ σ_18 := FR_tr frσ_16 flσ_18 (by decide) (by decide)
        have nfσ_18 : NF σ σ_18 := NF_fr nfσ_16 flσ_18 (by decide)
        try simp (disch := omega) only [w32_of, w64_of, w8_of] at g32
        have c37 := ii_kR_at hσ_18 0
        try simp (disch := omega) only [w32_of, w64_of, w8_of] at g33
        try simp (disch := omega) only [w32_of, w64_of, w8_of] at g34
        try simp (disch := omega) only [w32_of, w64_of, w8_of] at g35
        have c38 := FR_at flσ_18 (c := kR_plan) (by decide) (65536 + number_0)
        have c39 := ii_kR_pointMany hσ_18 32
        have c40 := FR_at flσ_18 (c := kR_pointMany) (by decide) 32
        have c41 := ii_kR_pointMany hσ_16 32
        have c42 := FR_at flσ_16 (c := kR_pointMany) (by decide) 32
        exact wp_some (x_inl ⟨⟨(by (try dsimp only) <;> first | assumption | omega | ((try simp (disch := omega) only [w32_of, w64_of, w8_of]) <;> first | assumption | omega | (split <;> omega) | (refine And.intro ?_ ?_ <;> split <;> omega)) | omega), hσ_18, frσ_18, nfσ_18, (by (try dsimp only) <;> first | assumption | omega | ((try simp (disch := omega) only [w32_of, w64_of, w8_of]) <;> first | assumption | omega | (split <;> omega) | (refine And.intro ?_ ?_ <;> split <;> omega)) | omega), (by (try dsimp only) <;> first | assumption | omega | ((try simp (disch := omega) only [w32_of, w64_of, w8_of]) <;> first | assumption | omega | (split <;> omega) | (refine And.intro ?_ ?_ <;> split <;> omega)) | omega), (by (try dsimp only) <;> first | assumption | omega | ((try simp (disch := omega) only [w32_of, w64_of, w8_of]) <;> first | assumption | omega | (split <;> omega) | (refine And.intro ?_ ?_ <;> split <;> omega)) | omega), (by (try dsimp only) <;> first | assumption | omega | ((try simp (disch := omega) only [w32_of, w64_of, w8_of]) <;> first | assumption | omega | (split <;> omega) | (refine And.intro ?_ ?_ <;> split <;> omega)) | omega), (by (try dsimp only) <;> first | assumption | omega | ((try simp (disch := omega) only [w32_of, w64_of, w8_of]) <;> first | assumption | omega | (split <;> omega) | (refine And.intro ?_ ?_ <;> split <;> omega)) | omega), (by (try dsimp only) <;> (first | exact gn | (intro i hi; rfl) | (intro i hi; rw [FR_at flσ_18 (c := kR_plan) (by decide), gm2 i hi, FR_at flσ_12 (c := kR_plan) (by decide)]; exact gn i hi)))⟩, (by (try dsimp only) <;> first | assumption | omega | ((try simp (disch := omega) only [w32_of, w64_of, w8_of]) <;> first | assumption | omega | (split <;> omega) | (refine And.intro ?_ ?_ <;> split <;> omega)) | omega)⟩)
      · try simp (disch := omega) only [w32_of, w64_of, w8_of, decide_eq_true_eq, decide_eq_false_iff_not, Bool.not_eq_true] at c23
        have c44 := FR_at flσ_12 (c := kR_plan) (by decide) (65536 + number_0)
        exact wp_some (x_inr (x_inr ⟨hσ_12, frσ_12, nfσ_12, (by (try dsimp only) <;> first | assumption | omega | ((try simp (disch := omega) only [w32_of, w64_of, w8_of]) <;> first | assumption | omega | (split <;> omega) | (refine And.intro ?_ ?_ <;> split <;> omega)) | omega), (by (try dsimp only) <;> first | assumption | omega | ((try simp (disch := omega) only [w32_of, w64_of, w8_of]) <;> first | assumption | omega | (split <;> omega) | (refine And.intro ?_ ?_ <;> split <;> omega)) | omega), (fun q => (by cases q)), (by (try dsimp only) <;> (first | exact gn | (intro i hi; rw [FR_at flσ_12 (c := kR_plan) (by decide)]; exact gn i hi)))⟩))
    · try simp (disch := omega) only [w32_of, w64_of, w8_of, decide_eq_true_eq, decide_eq_false_iff_not, Bool.not_eq_true] at c11
      have c45 := ii_kR_at hσ_2 0
      have c46 := ii_kR_pointMany hσ_2 32
      exact wp_some (x_inr (x_inl ⟨(by (try dsimp only) <;> first | assumption | omega | ((try simp (disch := omega) only [w32_of, w64_of, w8_of]) <;> first | assumption | omega | (split <;> omega) | (refine And.intro ?_ ?_ <;> split <;> omega)) | omega), hσ_2, frσ_2, nfσ_2, (by (try dsimp only) <;> first | assumption | omega | ((try simp (disch := omega) only [w32_of, w64_of, w8_of]) <;> first | assumption | omega | (split <;> omega) | (refine And.intro ?_ ?_ <;> split <;> omega)) | omega), (by (try dsimp only) <;> first | assumption | omega | ((try simp (disch := omega) only [w32_of, w64_of, w8_of]) <;> first | assumption | omega | (split <;> omega) | (refine And.intro ?_ ?_ <;> split <;> omega)) | omega), (by (try dsimp only) <;> first | assumption | omega | ((try simp (disch := omega) only [w32_of, w64_of, w8_of]) <;> first | assumption | omega | (split <;> omega) | (refine And.intro ?_ ?_ <;> split <;> omega)) | omega), (by (try dsimp only) <;> first | assumption | omega | ((try simp (disch := omega) only [w32_of, w64_of, w8_of]) <;> first | assumption | omega | (split <;> omega) | (refine And.intro ?_ ?_ <;> split <;> omega)) | omega), (by (try dsimp only) <;> (exact gn))⟩))
  rintro ⟨on_22, σ_23⟩ y52
  try dsimp only at y52 ⊢
  obtain ⟨g47, hσ_23, frσ_23, nfσ_23, g48, g49, g50, g51, gn⟩ := y52
  have c53 := ii_kR_at hσ_23 0
  have c54 := ii_kR_pointMany hσ_23 32
  have c55 := ii_kR_pointMany hσ 32
  exact wp_some ⟨hσ_23, frσ_23, nfσ_23, (by (try dsimp only) <;> first | assumption | omega | ((try simp (disch := omega) only [w32_of, w64_of, w8_of]) <;> first | assumption | omega | (split <;> omega) | (refine And.intro ?_ ?_ <;> split <;> omega)) | omega), (by (try dsimp only) <;> first | assumption | omega | ((try simp (disch := omega) only [w32_of, w64_of, w8_of]) <;> first | assumption | omega | (split <;> omega) | (refine And.intro ?_ ?_ <;> split <;> omega)) | omega), (by intro q9; (try dsimp only) <;> first | assumption | omega | ((try simp (disch := omega) only [w32_of, w64_of, w8_of]) <;> first | assumption | omega | (split <;> omega) | (refine And.intro ?_ ?_ <;> split <;> omega)) | omega), (by (try dsimp only) <;> (first | exact gn | (intro i hi; rw [FR_at flσ_12 (c := kR_plan) (by decide)]; exact gn i hi)))⟩
theorem v_rings {σ : SG} {number_0 : Int} (hσ : II σ) (qnumber_0 : (-1) ≤ number_0 ∧ number_0 ≤ 2047) (w0 : σ kR_at 0 ≤ σ kR_size 0) (w1 : 0 ≤ number_0 ∧ number_0 ≤ 2047) (w2 : σ kR_plan (65536 + number_0) = 0) (w3 : σ kR_planMany 32 = number_0 + 1) : wp_ (fR_rings σ number_0) (fun zz_ => II zz_.2 ∧ FR [kR_at, kR_faultKind, kR_faultPlace, kR_numberFrom, kR_numberTo, kR_numberWhole, kR_plan, kR_planMany, kR_pointMany, kR_value, kR_xs, kR_ys] σ zz_.2 ∧ NF σ zz_.2 ∧ (σ kR_at 0 ≤ zz_.2 kR_at 0) ∧ (zz_.2 kR_at 0 ≤ σ kR_size 0) ∧ ((zz_.1 = true) → RGc σ zz_.2 (65536 + number_0))) := by
  unfold fR_rings
  have c1 := ii_kR_at hσ 0
  have c2 := ii_kR_size hσ 0
  have c3 := ii_kR_planMany hσ 32
  refine wp_bx (P := fun rr_ => ((-1) ≤ rr_.1 ∧ rr_.1 ≤ 0) ∧ II rr_.2 ∧ FR [kR_at, kR_faultKind, kR_faultPlace, kR_numberFrom, kR_numberTo, kR_numberWhole, kR_plan, kR_planMany, kR_pointMany, kR_value, kR_xs, kR_ys] σ rr_.2 ∧ NF σ rr_.2 ∧ (σ kR_at 0 ≤ rr_.2 kR_at 0) ∧ (rr_.2 kR_at 0 ≤ σ kR_size 0) ∧ (rr_.2 kR_plan (65536 + number_0) = rr_.2 kR_planMany 32 - (number_0 + 1)) ∧ (∀ k, 0 ≤ k → k < rr_.2 kR_planMany 32 - (number_0 + 1) → 0 ≤ rr_.2 kR_plan (65536 + number_0 + 1 + k)) ∧ (rr_.2 kR_pointMany 32 = σ kR_pointMany 32 + su_ (rr_.2 kR_plan) (65536 + number_0 + 1) (rr_.2 kR_planMany 32 - (number_0 + 1)).toNat) ∧ (∀ i, i < 65536 + number_0 → rr_.2 kR_plan i = σ kR_plan i) ∧ (rr_.1 = 1 ∨ number_0 + 2 ≤ rr_.2 kR_planMany 32)) ?_ ?_
  · have c4 := ii_kR_pointMany hσ 32
    refine wp_whl (fun ss_ => ((-1) ≤ ss_.1 ∧ ss_.1 ≤ 1) ∧ II ss_.2 ∧ FR [kR_at, kR_faultKind, kR_faultPlace, kR_numberFrom, kR_numberTo, kR_numberWhole, kR_plan, kR_planMany, kR_pointMany, kR_value, kR_xs, kR_ys] σ ss_.2 ∧ NF σ ss_.2 ∧ (σ kR_at 0 ≤ ss_.2 kR_at 0) ∧ (ss_.2 kR_at 0 ≤ σ kR_size 0) ∧ (number_0 + 1 ≤ ss_.2 kR_planMany 32) ∧ (ss_.2 kR_plan (65536 + number_0) = ss_.2 kR_planMany 32 - (number_0 + 1)) ∧ (∀ k, 0 ≤ k → k < ss_.2 kR_planMany 32 - (number_0 + 1) → 0 ≤ ss_.2 kR_plan (65536 + number_0 + 1 + k)) ∧ (ss_.2 kR_pointMany 32 = σ kR_pointMany 32 + su_ (ss_.2 kR_plan) (65536 + number_0 + 1) (ss_.2 kR_planMany 32 - (number_0 + 1)).toNat) ∧ (∀ i, i < 65536 + number_0 → ss_.2 kR_plan i = σ kR_plan i) ∧ (ss_.1 = 1 ∨ number_0 + 2 ≤ ss_.2 kR_planMany 32)) (fun ss_ => (2 * (65536 - ss_.2 kR_at 0) + ss_.1 + 1).toNat) ⟨(by (try dsimp only) <;> first | assumption | omega | ((try simp (disch := omega) only [w32_of, w64_of, w8_of]) <;> first | assumption | omega | (split <;> omega) | (refine And.intro ?_ ?_ <;> split <;> omega)) | omega), hσ, (FR_refl _ _), (NF_refl _), (by (try dsimp only) <;> first | assumption | omega | ((try simp (disch := omega) only [w32_of, w64_of, w8_of]) <;> first | assumption | omega | (split <;> omega) | (refine And.intro ?_ ?_ <;> split <;> omega)) | omega), (by (try dsimp only) <;> first | assumption | omega | ((try simp (disch := omega) only [w32_of, w64_of, w8_of]) <;> first | assumption | omega | (split <;> omega) | (refine And.intro ?_ ?_ <;> split <;> omega)) | omega), (by (try dsimp only) <;> first | assumption | omega | ((try simp (disch := omega) only [w32_of, w64_of, w8_of]) <;> first | assumption | omega | (split <;> omega) | (refine And.intro ?_ ?_ <;> split <;> omega)) | omega), (by (try dsimp only) <;> first | assumption | omega | ((try simp (disch := omega) only [w32_of, w64_of, w8_of]) <;> first | assumption | omega | (split <;> omega) | (refine And.intro ?_ ?_ <;> split <;> omega)) | omega), (by (try dsimp only) <;> (first | exact gk | (intro k a b; exact absurd b (by omega)) | (intro k a b; by_cases q : k = σ_2 kR_planMany 32 - (number_0 + 1) <;> first | (rw [show 65536 + number_0 + 1 + k = 65536 + σ_2 kR_planMany 32 by omega]; omega) | (rw [po _ (by omega) (by omega)]; exact gk k a (by omega))))), (by (try dsimp only) <;> (first | exact gh | (rw [show (σ kR_planMany 32 - (number_0 + 1)).toNat = 0 by omega]; show _ = _ + (0 : Int); omega) | (rw [show σ_37 kR_planMany 32 - (number_0 + 1) = σ_2 kR_planMany 32 - (number_0 + 1) + 1 by omega, su_i (by omega), show 65536 + number_0 + 1 + (σ_2 kR_planMany 32 - (number_0 + 1)) = 65536 + σ_2 kR_planMany 32 by omega, su_cg (pm := σ_2 kR_plan) (fun i a b => po i (by omega) (by omega))]; omega))), (by (try dsimp only) <;> (first | exact gn | (intro i hi; rfl) | (intro i hi; rw [po i (by omega) (by omega)]; exact gn i hi))), (by (try dsimp only) <;> first | assumption | omega | ((try simp (disch := omega) only [w32_of, w64_of, w8_of]) <;> first | assumption | omega | (split <;> omega) | (refine And.intro ?_ ?_ <;> split <;> omega)) | omega)⟩ ?_
    rintro ⟨on_1, σ_2⟩ y11
    try dsimp only at y11 ⊢
    obtain ⟨g5, hσ_2, frσ_2, nfσ_2, g6, g7, g8, g9, gk, gh, gn, g10⟩ := y11
    have c13 := w32_rng on_1
    refine wp_if (fun c12 => ?_) (fun c12 => ?_)
    · try simp (disch := omega) only [w32_of, w64_of, w8_of, decide_eq_true_eq, decide_eq_false_iff_not, Bool.not_eq_true] at c12
      have c14 := ii_kR_at hσ_2 0
      have c15 := ii_kR_size hσ_2 0
      have c16 := FR_at frσ_2 (c := kR_size) (by decide) 0
      refine wp_bd (v_skip (σ := σ_2) hσ_2 (by (try dsimp only) <;> first | assumption | omega | ((try simp (disch := omega) only [w32_of, w64_of, w8_of]) <;> first | assumption | omega | (split <;> omega) | (refine And.intro ?_ ?_ <;> split <;> omega)) | omega)) ?_
      rintro σ_12 - ⟨hσ_12, flσ_12, g17, g18⟩
      have frσ_12 : FR [kR_at, kR_faultKind, kR_faultPlace, kR_numberFrom, kR_numberTo, kR_numberWhole, kR_plan, kR_planMany, kR_pointMany, kR_value, kR_xs, kR_ys] σ σ_12 := FR_tr frσ_2 flσ_12 (by decide) (by decide)
      have nfσ_12 : NF σ σ_12 := NF_fr nfσ_2 flσ_12 (by decide)
      have c19 := ii_kR_at hσ_12 0
      try simp (disch := omega) only [w32_of, w64_of, w8_of] at g17
      try simp (disch := omega) only [w32_of, w64_of, w8_of] at g18
      refine wp_rdI (by (try dsimp only) <;> first | assumption | omega | ((try simp (disch := omega) only [w32_of, w64_of, w8_of]) <;> first | assumption | omega | (split <;> omega) | (refine And.intro ?_ ?_ <;> split <;> omega)) | omega) (by (try dsimp only) <;> first | assumption | omega | ((try simp (disch := omega) only [w32_of, w64_of, w8_of]) <;> first | assumption | omega | (split <;> omega) | (refine And.intro ?_ ?_ <;> split <;> omega)) | omega) (fun x_13 e_x_13 => ?_)
      have b_x_13 : 0 ≤ x_13 ∧ x_13 ≤ 2048 := by rw [e_x_13]; exact ii_kR_planMany hσ_12 _
      try simp (disch := omega) only [w32_of, w64_of, w8_of] at e_x_13
      have c20 := ii_kR_planMany hσ_12 32
      have c21 := FR_at flσ_12 (c := kR_planMany) (by decide) 32
      have c22 := ii_kR_planMany hσ_2 32
      have c24 := w32_rng x_13
      refine wp_if (fun c23 => ?_) (fun c23 => ?_)
      · try simp (disch := omega) only [w32_of, w64_of, w8_of, decide_eq_true_eq, decide_eq_false_iff_not, Bool.not_eq_true] at c23
        refine wp_bd (v_wrong (σ := σ_12) (kind_0 := 7) (where_0 := (σ_12 kR_at 0)) hσ_12 (by (try dsimp only) <;> first | assumption | omega | ((try simp (disch := omega) only [w32_of, w64_of, w8_of]) <;> first | assumption | omega | (split <;> omega) | (refine And.intro ?_ ?_ <;> split <;> omega)) | omega) (by (try dsimp only) <;> first | assumption | omega | ((try simp (disch := omega) only [w32_of, w64_of, w8_of]) <;> first | assumption | omega | (split <;> omega) | (refine And.intro ?_ ?_ <;> split <;> omega)) | omega)) ?_
        rintro ⟨x_18, σ_17⟩ - y26
        try dsimp only at y26 ⊢
        obtain ⟨hσ_17, flσ_17, g25⟩ := y26
        have frσ_17 : FR [kR_at, kR_faultKind, kR_faultPlace, kR_numberFrom, kR_numberTo, kR_numberWhole, kR_plan, kR_planMany, kR_pointMany, kR_value, kR_xs, kR_ys] σ σ_17 := FR_tr frσ_12 flσ_17 (by decide) (by decide)
        have nfσ_17 : NF σ σ_17 := NF_fr nfσ_12 flσ_17 (by decide)
        try simp (disch := omega) only [w32_of, w64_of, w8_of] at g25
        have c27 := ii_kR_at hσ_17 0
        have c28 := FR_at flσ_17 (c := kR_at) (by decide) 0
        exact wp_some (x_inr (x_inr ⟨hσ_17, frσ_17, nfσ_17, (by (try dsimp only) <;> first | assumption | omega | ((try simp (disch := omega) only [w32_of, w64_of, w8_of]) <;> first | assumption | omega | (split <;> omega) | (refine And.intro ?_ ?_ <;> split <;> omega)) | omega), (by (try dsimp only) <;> first | assumption | omega | ((try simp (disch := omega) only [w32_of, w64_of, w8_of]) <;> first | assumption | omega | (split <;> omega) | (refine And.intro ?_ ?_ <;> split <;> omega)) | omega), (fun q => absurd (q.symm.trans g25) (by decide))⟩))
      · try simp (disch := omega) only [w32_of, w64_of, w8_of, decide_eq_true_eq, decide_eq_false_iff_not, Bool.not_eq_true] at c23
        refine wp_bd (v_here (σ := σ_12) hσ_12) ?_
        rintro x_20 - ⟨g29, g30, g31⟩
        try simp (disch := omega) only [w32_of, w64_of, w8_of] at g29
        try simp (disch := omega) only [w32_of, w64_of, w8_of] at g30
        have c32 := ii_kR_size hσ_12 0
        have c33 := FR_at flσ_12 (c := kR_size) (by decide) 0
        try simp (disch := omega) only [w32_of, w64_of, w8_of] at g31
        have c35 := w32_rng x_20
        refine wp_if (fun c34 => ?_) (fun c34 => ?_)
        · try simp (disch := omega) only [w32_of, w64_of, w8_of, decide_eq_true_eq, decide_eq_false_iff_not, Bool.not_eq_true] at c34
          refine wp_bd (v_strange (σ := σ_12) (word_0 := false) hσ_12) ?_
          rintro ⟨x_24, σ_23⟩ - y37
          try dsimp only at y37 ⊢
          obtain ⟨hσ_23, flσ_23, g36⟩ := y37
          have frσ_23 : FR [kR_at, kR_faultKind, kR_faultPlace, kR_numberFrom, kR_numberTo, kR_numberWhole, kR_plan, kR_planMany, kR_pointMany, kR_value, kR_xs, kR_ys] σ σ_23 := FR_tr frσ_12 flσ_23 (by decide) (by decide)
          have nfσ_23 : NF σ σ_23 := NF_fr nfσ_12 flσ_23 (by decide)
          try simp (disch := omega) only [w32_of, w64_of, w8_of] at g36
          have c38 := ii_kR_at hσ_23 0
          have c39 := FR_at flσ_23 (c := kR_at) (by decide) 0
          exact wp_some (x_inr (x_inr ⟨hσ_23, frσ_23, nfσ_23, (by (try dsimp only) <;> first | assumption | omega | ((try simp (disch := omega) only [w32_of, w64_of, w8_of]) <;> first | assumption | omega | (split <;> omega) | (refine And.intro ?_ ?_ <;> split <;> omega)) | omega), (by (try dsimp only) <;> first | assumption | omega | ((try simp (disch := omega) only [w32_of, w64_of, w8_of]) <;> first | assumption | omega | (split <;> omega) | (refine And.intro ?_ ?_ <;> split <;> omega)) | omega), (fun q => absurd (q.symm.trans g36) (by decide))⟩))
        · try simp (disch := omega) only [w32_of, w64_of, w8_of, decide_eq_true_eq, decide_eq_false_iff_not, Bool.not_eq_true] at c34
          refine wp_wfI hσ_12 b_kR_at (by (try dsimp only) <;> first | assumption | omega | ((try simp (disch := omega) only [w32_of, w64_of, w8_of]) <;> first | assumption | omega | (split <;> omega) | (refine And.intro ?_ ?_ <;> split <;> omega)) | omega) (fun σ_25 hσ_25 eσ_25 => ?_)
          try simp (disch := omega) only [w32_of, w64_of, w8_of] at eσ_25
          have flσ_25 := FR_sg eσ_25
          have frσ_25 : FR [kR_at, kR_faultKind, kR_faultPlace, kR_numberFrom, kR_numberTo, kR_numberWhole, kR_plan, kR_planMany, kR_pointMany, kR_value, kR_xs, kR_ys] σ σ_25 := FR_tr frσ_12 flσ_25 (by decide) (by decide)
          have nfσ_25 : NF σ σ_25 := NF_fr nfσ_12 flσ_25 (by decide)
          have hp2 : σ_25 kR_planMany 32 = σ_2 kR_planMany 32 := (FR_at flσ_25 (c := kR_planMany) (by decide) 32).trans (FR_at flσ_12 (c := kR_planMany) (by decide) 32)
          refine wp_rdI (by (try dsimp only) <;> first | assumption | omega | ((try simp (disch := omega) only [w32_of, w64_of, w8_of]) <;> first | assumption | omega | (split <;> omega) | (refine And.intro ?_ ?_ <;> split <;> omega)) | omega) (by (try dsimp only) <;> first | assumption | omega | ((try simp (disch := omega) only [w32_of, w64_of, w8_of]) <;> first | assumption | omega | (split <;> omega) | (refine And.intro ?_ ?_ <;> split <;> omega)) | omega) (fun x_26 e_x_26 => ?_)
          have b_x_26 : 0 ≤ x_26 ∧ x_26 ≤ 2048 := by rw [e_x_26]; exact ii_kR_planMany hσ_25 _
          try simp (disch := omega) only [w32_of, w64_of, w8_of] at e_x_26
          have c40 := ii_kR_planMany hσ_25 32
          have c41 := FR_at flσ_25 (c := kR_planMany) (by decide) 32
          refine wp_bd (v_tell (σ := σ_25) (v_0 := 0) hσ_25 (by (try dsimp only) <;> first | assumption | omega | ((try simp (disch := omega) only [w32_of, w64_of, w8_of]) <;> first | assumption | omega | (split <;> omega) | (refine And.intro ?_ ?_ <;> split <;> omega)) | omega)) ?_
          rintro σ_29 - ⟨hσ_29, flσ_29, ngσ_29, gt1, gt2, gt3⟩
          have frσ_29 : FR [kR_at, kR_faultKind, kR_faultPlace, kR_numberFrom, kR_numberTo, kR_numberWhole, kR_plan, kR_planMany, kR_pointMany, kR_value, kR_xs, kR_ys] σ σ_29 := FR_tr frσ_25 flσ_29 (by decide) (by decide)
          have nfσ_29 : NF σ σ_29 := NF_tr nfσ_25 ngσ_29
          have c42 := ii_kR_planMany hσ_29 32
          try simp (disch := omega) only [w32_of, w64_of, w8_of] at gt1
          try simp (disch := omega) only [w32_of, w64_of, w8_of] at gt2
          try simp (disch := omega) only [w32_of, w64_of, w8_of] at gt3
          refine wp_bd (v_more (σ := σ_29) (number_0 := number_0) hσ_29 (by (try dsimp only) <;> first | assumption | omega | ((try simp (disch := omega) only [w32_of, w64_of, w8_of]) <;> first | assumption | omega | (split <;> omega) | (refine And.intro ?_ ?_ <;> split <;> omega)) | omega) (by (try dsimp only) <;> first | assumption | omega | ((try simp (disch := omega) only [w32_of, w64_of, w8_of]) <;> first | assumption | omega | (split <;> omega) | (refine And.intro ?_ ?_ <;> split <;> omega)) | omega)) ?_
          rintro σ_31 - ⟨hσ_31, flσ_31, ngσ_31, gm1, gm2⟩
          have frσ_31 : FR [kR_at, kR_faultKind, kR_faultPlace, kR_numberFrom, kR_numberTo, kR_numberWhole, kR_plan, kR_planMany, kR_pointMany, kR_value, kR_xs, kR_ys] σ σ_31 := FR_tr frσ_29 flσ_31 (by decide) (by decide)
          have nfσ_31 : NF σ σ_31 := NF_tr nfσ_29 ngσ_31
          try simp (disch := omega) only [w32_of, w64_of, w8_of] at gm1
          try simp (disch := omega) only [w32_of, w64_of, w8_of] at gm2
          have pz : σ_31 kR_plan (65536 + x_26) = 0 := by rw [gm2 _ (by omega), e_x_26]; exact gt2
          have c43 := ii_kR_at hσ_31 0
          have c44 := FR_at flσ_31 (c := kR_at) (by decide) 0
          have c45 := ii_kR_at hσ_29 0
          have c46 := FR_at flσ_29 (c := kR_at) (by decide) 0
          have c47 := ii_kR_at hσ_25 0
          have c48 := sg_val eσ_25
          have c49 := ii_kR_size hσ_31 0
          have c50 := FR_at flσ_31 (c := kR_size) (by decide) 0
          have c51 := ii_kR_size hσ_29 0
          have c52 := FR_at flσ_29 (c := kR_size) (by decide) 0
          have c53 := ii_kR_size hσ_25 0
          have c54 := FR_at flσ_25 (c := kR_size) (by decide) 0
          refine wp_bd (v_row (σ := σ_31) (number_0 := x_26) hσ_31 (by (try dsimp only) <;> first | assumption | omega | ((try simp (disch := omega) only [w32_of, w64_of, w8_of]) <;> first | assumption | omega | (split <;> omega) | (refine And.intro ?_ ?_ <;> split <;> omega)) | omega) (by (try dsimp only) <;> first | assumption | omega | ((try simp (disch := omega) only [w32_of, w64_of, w8_of]) <;> first | assumption | omega | (split <;> omega) | (refine And.intro ?_ ?_ <;> split <;> omega)) | omega) (by (try dsimp only) <;> first | assumption | omega | ((try simp (disch := omega) only [w32_of, w64_of, w8_of]) <;> first | assumption | omega | (split <;> omega) | (refine And.intro ?_ ?_ <;> split <;> omega)) | omega) (by (try dsimp only) <;> first | assumption | omega | ((try simp (disch := omega) only [w32_of, w64_of, w8_of]) <;> first | assumption | omega | (split <;> omega) | (refine And.intro ?_ ?_ <;> split <;> omega)) | omega)) ?_
          rintro ⟨x_34, σ_33⟩ - y55
          try dsimp only at y55 ⊢
          obtain ⟨hσ_33, flσ_33, ngσ_33, go1, go2, go3, go4⟩ := y55
          have frσ_33 : FR [kR_at, kR_faultKind, kR_faultPlace, kR_numberFrom, kR_numberTo, kR_numberWhole, kR_plan, kR_planMany, kR_pointMany, kR_value, kR_xs, kR_ys] σ σ_33 := FR_tr frσ_31 flσ_33 (by decide) (by decide)
          have nfσ_33 : NF σ σ_33 := NF_tr nfσ_31 ngσ_33
          have c56 := ii_kR_at hσ_33 0
          try simp (disch := omega) only [w32_of, w64_of, w8_of] at go1
          try simp (disch := omega) only [w32_of, w64_of, w8_of] at go2
          have c57 := ii_kR_pointMany hσ_33 32
          have c58 := ii_kR_pointMany hσ_31 32
          have c59 := FR_at flσ_31 (c := kR_pointMany) (by decide) 32
          have c60 := ii_kR_pointMany hσ_29 32
          have c61 := FR_at flσ_29 (c := kR_pointMany) (by decide) 32
          have c62 := ii_kR_pointMany hσ_25 32
          have c63 := FR_at flσ_25 (c := kR_pointMany) (by decide) 32
          have c64 := ii_kR_pointMany hσ_12 32
          have c65 := FR_at flσ_12 (c := kR_pointMany) (by decide) 32
          have c66 := ii_kR_pointMany hσ_2 32
          try simp (disch := omega) only [w32_of, w64_of, w8_of] at go3
          try simp (disch := omega) only [w32_of, w64_of, w8_of] at go4
          refine wp_if (fun c67 => ?_) (fun c67 => ?_)
          · have k68 := go3 c67
            try simp (disch := omega) only [w32_of, w64_of, w8_of] at k68
            try simp (disch := omega) only [w32_of, w64_of, w8_of, decide_eq_true_eq, decide_eq_false_iff_not, Bool.not_eq_true] at c67
            have c69 := ii_kR_size hσ_33 0
            have c70 := FR_at flσ_33 (c := kR_size) (by decide) 0
            refine wp_bd (v_goesOn (σ := σ_33) hσ_33 (by (try dsimp only) <;> first | assumption | omega | ((try simp (disch := omega) only [w32_of, w64_of, w8_of]) <;> first | assumption | omega | (split <;> omega) | (refine And.intro ?_ ?_ <;> split <;> omega)) | omega)) ?_
            rintro ⟨x_38, σ_37⟩ - y75
            try dsimp only at y75 ⊢
            obtain ⟨g71, hσ_37, flσ_37, g72, g73, g74⟩ := y75
            have frσ_37 : FR [kR_at, kR_faultKind, kR_faultPlace, kR_numberFrom, kR_numberTo, kR_numberWhole, kR_plan, kR_planMany, kR_pointMany, kR_value, kR_xs, kR_ys] σ σ_37 := FR_tr frσ_33 flσ_37 (by decide) (by decide)
            have nfσ_37 : NF σ σ_37 := NF_fr nfσ_33 flσ_37 (by decide)
            try simp (disch := omega) only [w32_of, w64_of, w8_of] at g71
            have c76 := ii_kR_at hσ_37 0
            try simp (disch := omega) only [w32_of, w64_of, w8_of] at g72
            try simp (disch := omega) only [w32_of, w64_of, w8_of] at g73
            try simp (disch := omega) only [w32_of, w64_of, w8_of] at g74
            have po : ∀ i, i ≠ 65536 + σ_2 kR_planMany 32 → i ≠ 65536 + number_0 → σ_37 kR_plan i = σ_2 kR_plan i := fun i a b => by
              rw [FR_at flσ_37 (c := kR_plan) (by decide), go4 i (by omega), gm2 i b, gt3 i (by omega), FR_at flσ_25 (c := kR_plan) (by decide), FR_at flσ_12 (c := kR_plan) (by decide)]
            have pe1 : σ_37 kR_plan (65536 + σ_2 kR_planMany 32) = σ_33 kR_plan (65536 + x_26) := by rw [FR_at flσ_37 (c := kR_plan) (by decide), show x_26 = σ_2 kR_planMany 32 by omega]
            have pn1 : σ_37 kR_plan (65536 + number_0) = σ_2 kR_plan (65536 + number_0) + 1 := by rw [FR_at flσ_37 (c := kR_plan) (by decide), go4 _ (by omega), gm1, gt3 _ (by omega), FR_at flσ_25 (c := kR_plan) (by decide), FR_at flσ_12 (c := kR_plan) (by decide)]
            have pm1 : σ_37 kR_planMany 32 = σ_2 kR_planMany 32 + 1 := by rw [FR_at flσ_37 (c := kR_planMany) (by decide), FR_at flσ_33 (c := kR_planMany) (by decide), FR_at flσ_31 (c := kR_planMany) (by decide)]; omega
            have pq1 : σ_37 kR_pointMany 32 = σ_33 kR_pointMany 32 := FR_at flσ_37 (c := kR_pointMany) (by decide) 32
            have pq2 : σ_31 kR_pointMany 32 = σ_2 kR_pointMany 32 := by rw [FR_at flσ_31 (c := kR_pointMany) (by decide), FR_at flσ_29 (c := kR_pointMany) (by decide), FR_at flσ_25 (c := kR_pointMany) (by decide), FR_at flσ_12 (c := kR_pointMany) (by decide)]
            have c77 := ii_kR_planMany hσ_37 32
            have c78 := FR_at flσ_37 (c := kR_planMany) (by decide) 32
            have c79 := ii_kR_planMany hσ_33 32
            have c80 := FR_at flσ_33 (c := kR_planMany) (by decide) 32
            have c81 := ii_kR_planMany hσ_31 32
            have c82 := FR_at flσ_31 (c := kR_planMany) (by decide) 32
            have c83 := FR_at flσ_37 (c := kR_plan) (by decide) (65536 + number_0)
            have c84 := ii_kR_pointMany hσ_37 32
            have c85 := FR_at flσ_37 (c := kR_pointMany) (by decide) 32
            exact wp_some (x_inl ⟨⟨(by (try dsimp only) <;> first | assumption | omega | ((try simp (disch := omega) only [w32_of, w64_of, w8_of]) <;> first | assumption | omega | (split <;> omega) | (refine And.intro ?_ ?_ <;> split <;> omega)) | omega), hσ_37, frσ_37, nfσ_37, (by (try dsimp only) <;> first | assumption | omega | ((try simp (disch := omega) only [w32_of, w64_of, w8_of]) <;> first | assumption | omega | (split <;> omega) | (refine And.intro ?_ ?_ <;> split <;> omega)) | omega), (by (try dsimp only) <;> first | assumption | omega | ((try simp (disch := omega) only [w32_of, w64_of, w8_of]) <;> first | assumption | omega | (split <;> omega) | (refine And.intro ?_ ?_ <;> split <;> omega)) | omega), (by (try dsimp only) <;> first | assumption | omega | ((try simp (disch := omega) only [w32_of, w64_of, w8_of]) <;> first | assumption | omega | (split <;> omega) | (refine And.intro ?_ ?_ <;> split <;> omega)) | omega), (by (try dsimp only) <;> first | assumption | omega | ((try simp (disch := omega) only [w32_of, w64_of, w8_of]) <;> first | assumption | omega | (split <;> omega) | (refine And.intro ?_ ?_ <;> split <;> omega)) | omega), (by (try dsimp only) <;> (first | exact gk | (intro k a b; exact absurd b (by omega)) | (intro k a b; by_cases q : k = σ_2 kR_planMany 32 - (number_0 + 1) <;> first | (rw [show 65536 + number_0 + 1 + k = 65536 + σ_2 kR_planMany 32 by omega]; omega) | (rw [po _ (by omega) (by omega)]; exact gk k a (by omega))))), (by (try dsimp only) <;> (first | exact gh | (rw [show (σ kR_planMany 32 - (number_0 + 1)).toNat = 0 by omega]; show _ = _ + (0 : Int); omega) | (rw [show σ_37 kR_planMany 32 - (number_0 + 1) = σ_2 kR_planMany 32 - (number_0 + 1) + 1 by omega, su_i (by omega), show 65536 + number_0 + 1 + (σ_2 kR_planMany 32 - (number_0 + 1)) = 65536 + σ_2 kR_planMany 32 by omega, su_cg (pm := σ_2 kR_plan) (fun i a b => po i (by omega) (by omega))]; omega))), (by (try dsimp only) <;> (first | exact gn | (intro i hi; rfl) | (intro i hi; rw [po i (by omega) (by omega)]; exact gn i hi))), (by (try dsimp only) <;> first | assumption | omega | ((try simp (disch := omega) only [w32_of, w64_of, w8_of]) <;> first | assumption | omega | (split <;> omega) | (refine And.intro ?_ ?_ <;> split <;> omega)) | omega)⟩, (by (try dsimp only) <;> first | assumption | omega | ((try simp (disch := omega) only [w32_of, w64_of, w8_of]) <;> first | assumption | omega | (split <;> omega) | (refine And.intro ?_ ?_ <;> split <;> omega)) | omega)⟩)
          · try simp (disch := omega) only [w32_of, w64_of, w8_of, decide_eq_true_eq, decide_eq_false_iff_not, Bool.not_eq_true] at c67
            exact wp_some (x_inr (x_inr ⟨hσ_33, frσ_33, nfσ_33, (by (try dsimp only) <;> first | assumption | omega | ((try simp (disch := omega) only [w32_of, w64_of, w8_of]) <;> first | assumption | omega | (split <;> omega) | (refine And.intro ?_ ?_ <;> split <;> omega)) | omega), (by (try dsimp only) <;> first | assumption | omega | ((try simp (disch := omega) only [w32_of, w64_of, w8_of]) <;> first | assumption | omega | (split <;> omega) | (refine And.intro ?_ ?_ <;> split <;> omega)) | omega), (fun q => (by cases q))⟩))
    · try simp (disch := omega) only [w32_of, w64_of, w8_of, decide_eq_true_eq, decide_eq_false_iff_not, Bool.not_eq_true] at c12
      have c87 := ii_kR_at hσ_2 0
      have c88 := ii_kR_planMany hσ_2 32
      have c89 := ii_kR_pointMany hσ_2 32
      exact wp_some (x_inr (x_inl ⟨(by (try dsimp only) <;> first | assumption | omega | ((try simp (disch := omega) only [w32_of, w64_of, w8_of]) <;> first | assumption | omega | (split <;> omega) | (refine And.intro ?_ ?_ <;> split <;> omega)) | omega), hσ_2, frσ_2, nfσ_2, (by (try dsimp only) <;> first | assumption | omega | ((try simp (disch := omega) only [w32_of, w64_of, w8_of]) <;> first | assumption | omega | (split <;> omega) | (refine And.intro ?_ ?_ <;> split <;> omega)) | omega), (by (try dsimp only) <;> first | assumption | omega | ((try simp (disch := omega) only [w32_of, w64_of, w8_of]) <;> first | assumption | omega | (split <;> omega) | (refine And.intro ?_ ?_ <;> split <;> omega)) | omega), (by (try dsimp only) <;> first | assumption | omega | ((try simp (disch := omega) only [w32_of, w64_of, w8_of]) <;> first | assumption | omega | (split <;> omega) | (refine And.intro ?_ ?_ <;> split <;> omega)) | omega), (by (try dsimp only) <;> (exact gk)), (by (try dsimp only) <;> (exact gh)), (by (try dsimp only) <;> (exact gn)), (by (try dsimp only) <;> first | assumption | omega | ((try simp (disch := omega) only [w32_of, w64_of, w8_of]) <;> first | assumption | omega | (split <;> omega) | (refine And.intro ?_ ?_ <;> split <;> omega)) | omega)⟩))
  rintro ⟨on_41, σ_42⟩ y95
  try dsimp only at y95 ⊢
  obtain ⟨g90, hσ_42, frσ_42, nfσ_42, g91, g92, g93, gk, gh, gn, g94⟩ := y95
  have c96 := ii_kR_at hσ_42 0
  exact wp_some ⟨hσ_42, frσ_42, nfσ_42, (by (try dsimp only) <;> first | assumption | omega | ((try simp (disch := omega) only [w32_of, w64_of, w8_of]) <;> first | assumption | omega | (split <;> omega) | (refine And.intro ?_ ?_ <;> split <;> omega)) | omega), (by (try dsimp only) <;> first | assumption | omega | ((try simp (disch := omega) only [w32_of, w64_of, w8_of]) <;> first | assumption | omega | (split <;> omega) | (refine And.intro ?_ ?_ <;> split <;> omega)) | omega), (by (try dsimp only) <;> (first | (intro q; have q2 := of_decide_eq_true q; simp (disch := omega) only [w32_of] at q2; exact ⟨by omega, by omega, fun k a b => gk k a (by omega), by rw [gh, show σ_42 kR_planMany 32 - (number_0 + 1) = σ_42 kR_plan (65536 + number_0) by omega], gn⟩)))⟩
theorem v_body0 {σ : SG} {kind_0 : Int} {number_0 : Int} (hσ : II σ) (qkind_0 : (-3) ≤ kind_0 ∧ kind_0 ≤ 999999999999999999999999999997) (qnumber_0 : (-1) ≤ number_0 ∧ number_0 ≤ 2047) (w0 : σ kR_at 0 ≤ σ kR_size 0) (w1 : 1 ≤ number_0 ∧ number_0 ≤ 2047) (w2 : 1 ≤ kind_0 ∧ kind_0 ≤ 3) (w3 : σ kR_plan (65536 + number_0) = 0) (w4 : σ kR_planMany 32 = number_0 + 1) (w5 : σ kR_plan (65536 + number_0 - 1) = kind_0) : wp_ (fR_body0 σ kind_0 number_0) (fun zz_ => II zz_.2 ∧ FR [kR_at, kR_faultKind, kR_faultPlace, kR_numberFrom, kR_numberTo, kR_numberWhole, kR_plan, kR_planMany, kR_pointMany, kR_value, kR_xs, kR_ys] σ zz_.2 ∧ NF σ zz_.2 ∧ (σ kR_at 0 ≤ zz_.2 kR_at 0) ∧ (zz_.2 kR_at 0 ≤ σ kR_size 0) ∧ ((zz_.1 = true) → ENt σ zz_.2 (65536 + number_0 - 1) kind_0)) := by
  unfold fR_body0
  have c1 := ii_kR_at hσ 0
  have c2 := ii_kR_size hσ 0
  have c3 := ii_kR_planMany hσ 32
  have c5 := w32_rng kind_0
  refine wp_if (fun c4 => ?_) (fun c4 => ?_)
  · try simp (disch := omega) only [w32_of, w64_of, w8_of, decide_eq_true_eq, decide_eq_false_iff_not, Bool.not_eq_true] at c4
    refine wp_bd (v_more (σ := σ) (number_0 := number_0) hσ (by (try dsimp only) <;> first | assumption | omega | ((try simp (disch := omega) only [w32_of, w64_of, w8_of]) <;> first | assumption | omega | (split <;> omega) | (refine And.intro ?_ ?_ <;> split <;> omega)) | omega) (by (try dsimp only) <;> first | assumption | omega | ((try simp (disch := omega) only [w32_of, w64_of, w8_of]) <;> first | assumption | omega | (split <;> omega) | (refine And.intro ?_ ?_ <;> split <;> omega)) | omega)) ?_
    rintro σ_3 - ⟨hσ_3, flσ_3, ngσ_3, gm1, gm2⟩
    have frσ_3 : FR [kR_at, kR_faultKind, kR_faultPlace, kR_numberFrom, kR_numberTo, kR_numberWhole, kR_plan, kR_planMany, kR_pointMany, kR_value, kR_xs, kR_ys] σ σ_3 := FR_le flσ_3 (by decide)
    have nfσ_3 : NF σ σ_3 := NF_tr (NF_refl _) ngσ_3
    try simp (disch := omega) only [w32_of, w64_of, w8_of] at gm1
    try simp (disch := omega) only [w32_of, w64_of, w8_of] at gm2
    refine wp_bdk ?_
    have c6 := ii_kR_at hσ_3 0
    have c7 := FR_at flσ_3 (c := kR_at) (by decide) 0
    have c8 := ii_kR_size hσ_3 0
    have c9 := FR_at flσ_3 (c := kR_size) (by decide) 0
    refine wp_bd (v_coordinate (σ := σ_3) hσ_3 (by (try dsimp only) <;> first | assumption | omega | ((try simp (disch := omega) only [w32_of, w64_of, w8_of]) <;> first | assumption | omega | (split <;> omega) | (refine And.intro ?_ ?_ <;> split <;> omega)) | omega)) ?_
    rintro ⟨x_6, σ_5⟩ - y13
    try dsimp only at y13 ⊢
    obtain ⟨hσ_5, flσ_5, ngσ_5, g10, g11, g12⟩ := y13
    have frσ_5 : FR [kR_at, kR_faultKind, kR_faultPlace, kR_numberFrom, kR_numberTo, kR_numberWhole, kR_plan, kR_planMany, kR_pointMany, kR_value, kR_xs, kR_ys] σ σ_5 := FR_tr frσ_3 flσ_5 (by decide) (by decide)
    have nfσ_5 : NF σ σ_5 := NF_tr nfσ_3 ngσ_5
    have c14 := ii_kR_at hσ_5 0
    try simp (disch := omega) only [w32_of, w64_of, w8_of] at g10
    try simp (disch := omega) only [w32_of, w64_of, w8_of] at g11
    have c15 := ii_kR_pointMany hσ_5 32
    have c16 := ii_kR_pointMany hσ_3 32
    have c17 := FR_at flσ_3 (c := kR_pointMany) (by decide) 32
    have c18 := ii_kR_pointMany hσ 32
    try simp (disch := omega) only [w32_of, w64_of, w8_of] at g12
    refine wp_if (fun c19 => ?_) (fun c19 => ?_)
    · have k20 := g12 c19
      try simp (disch := omega) only [w32_of, w64_of, w8_of] at k20
      try simp (disch := omega) only [w32_of, w64_of, w8_of, decide_eq_true_eq, decide_eq_false_iff_not, Bool.not_eq_true] at c19
      have c21 := ii_kR_size hσ_5 0
      have c22 := FR_at flσ_5 (c := kR_size) (by decide) 0
      refine wp_bd (v_closes (σ := σ_5) hσ_5 (by (try dsimp only) <;> first | assumption | omega | ((try simp (disch := omega) only [w32_of, w64_of, w8_of]) <;> first | assumption | omega | (split <;> omega) | (refine And.intro ?_ ?_ <;> split <;> omega)) | omega)) ?_
      rintro ⟨x_10, σ_9⟩ - y26
      try dsimp only at y26 ⊢
      obtain ⟨hσ_9, flσ_9, g23, g24, g25⟩ := y26
      have frσ_9 : FR [kR_at, kR_faultKind, kR_faultPlace, kR_numberFrom, kR_numberTo, kR_numberWhole, kR_plan, kR_planMany, kR_pointMany, kR_value, kR_xs, kR_ys] σ σ_9 := FR_tr frσ_5 flσ_9 (by decide) (by decide)
      have nfσ_9 : NF σ σ_9 := NF_fr nfσ_5 flσ_9 (by decide)
      have c27 := ii_kR_at hσ_9 0
      try simp (disch := omega) only [w32_of, w64_of, w8_of] at g23
      try simp (disch := omega) only [w32_of, w64_of, w8_of] at g24
      try simp (disch := omega) only [w32_of, w64_of, w8_of] at g25
      refine wp_if (fun c28 => ?_) (fun c28 => ?_)
      · have k29 := g25 c28
        try simp (disch := omega) only [w32_of, w64_of, w8_of] at k29
        try simp (disch := omega) only [w32_of, w64_of, w8_of, decide_eq_true_eq, decide_eq_false_iff_not, Bool.not_eq_true] at c28
        have pp9 : ∀ i, σ_9 kR_plan i = σ_3 kR_plan i := fun i => by rw [FR_at flσ_9 (c := kR_plan) (by decide), FR_at flσ_5 (c := kR_plan) (by decide)]
        have m3 : σ_3 kR_pointMany 32 = σ kR_pointMany 32 := FR_at flσ_3 (c := kR_pointMany) (by decide) 32
        have m9 : σ_9 kR_pointMany 32 = σ_5 kR_pointMany 32 := FR_at flσ_9 (c := kR_pointMany) (by decide) 32
        have pm9 : σ_9 kR_planMany 32 = σ kR_planMany 32 := by rw [FR_at flσ_9 (c := kR_planMany) (by decide), FR_at flσ_5 (c := kR_planMany) (by decide), FR_at flσ_3 (c := kR_planMany) (by decide)]
        have en1 : ENt σ σ_9 (65536 + number_0 - 1) kind_0 := EN_two (n := 1) (by omega) (by rw [pp9, gm2 _ (by omega)]; exact w5) (by rw [pp9, show 65536 + number_0 - 1 + 1 = 65536 + number_0 by omega, gm1, w3]; rfl) (by omega) (fun _ => by omega) (by omega) (by omega) (fun i hi => by rw [pp9, gm2 i (by omega)])
        refine wp_somek ?_
        try dsimp only
        exact wp_some ⟨hσ_9, frσ_9, nfσ_9, (by (try dsimp only) <;> first | assumption | omega | ((try simp (disch := omega) only [w32_of, w64_of, w8_of]) <;> first | assumption | omega | (split <;> omega) | (refine And.intro ?_ ?_ <;> split <;> omega)) | omega), (by (try dsimp only) <;> first | assumption | omega | ((try simp (disch := omega) only [w32_of, w64_of, w8_of]) <;> first | assumption | omega | (split <;> omega) | (refine And.intro ?_ ?_ <;> split <;> omega)) | omega), (by (try dsimp only) <;> (first | exact fun _ => en1 | exact en2 | exact en3))⟩
      · try simp (disch := omega) only [w32_of, w64_of, w8_of, decide_eq_true_eq, decide_eq_false_iff_not, Bool.not_eq_true] at c28
        refine wp_somek ?_
        try dsimp only
        exact wp_some ⟨hσ_9, frσ_9, nfσ_9, (by (try dsimp only) <;> first | assumption | omega | ((try simp (disch := omega) only [w32_of, w64_of, w8_of]) <;> first | assumption | omega | (split <;> omega) | (refine And.intro ?_ ?_ <;> split <;> omega)) | omega), (by (try dsimp only) <;> first | assumption | omega | ((try simp (disch := omega) only [w32_of, w64_of, w8_of]) <;> first | assumption | omega | (split <;> omega) | (refine And.intro ?_ ?_ <;> split <;> omega)) | omega), (fun q => (by cases q))⟩
    · try simp (disch := omega) only [w32_of, w64_of, w8_of, decide_eq_true_eq, decide_eq_false_iff_not, Bool.not_eq_true] at c19
      refine wp_somek ?_
      try dsimp only
      exact wp_some ⟨hσ_5, frσ_5, nfσ_5, (by (try dsimp only) <;> first | assumption | omega | ((try simp (disch := omega) only [w32_of, w64_of, w8_of]) <;> first | assumption | omega | (split <;> omega) | (refine And.intro ?_ ?_ <;> split <;> omega)) | omega), (by (try dsimp only) <;> first | assumption | omega | ((try simp (disch := omega) only [w32_of, w64_of, w8_of]) <;> first | assumption | omega | (split <;> omega) | (refine And.intro ?_ ?_ <;> split <;> omega)) | omega), (fun q => (by cases q))⟩
  · try simp (disch := omega) only [w32_of, w64_of, w8_of, decide_eq_true_eq, decide_eq_false_iff_not, Bool.not_eq_true] at c4
    refine wp_if (fun c32 => ?_) (fun c32 => ?_)
    · try simp (disch := omega) only [w32_of, w64_of, w8_of, decide_eq_true_eq, decide_eq_false_iff_not, Bool.not_eq_true] at c32
      refine wp_bd (v_row (σ := σ) (number_0 := number_0) hσ (by (try dsimp only) <;> first | assumption | omega | ((try simp (disch := omega) only [w32_of, w64_of, w8_of]) <;> first | assumption | omega | (split <;> omega) | (refine And.intro ?_ ?_ <;> split <;> omega)) | omega) (by (try dsimp only) <;> first | assumption | omega | ((try simp (disch := omega) only [w32_of, w64_of, w8_of]) <;> first | assumption | omega | (split <;> omega) | (refine And.intro ?_ ?_ <;> split <;> omega)) | omega) (by (try dsimp only) <;> first | assumption | omega | ((try simp (disch := omega) only [w32_of, w64_of, w8_of]) <;> first | assumption | omega | (split <;> omega) | (refine And.intro ?_ ?_ <;> split <;> omega)) | omega) (by (try dsimp only) <;> first | assumption | omega | ((try simp (disch := omega) only [w32_of, w64_of, w8_of]) <;> first | assumption | omega | (split <;> omega) | (refine And.intro ?_ ?_ <;> split <;> omega)) | omega)) ?_
      rintro ⟨x_24, σ_23⟩ - y33
      try dsimp only at y33 ⊢
      obtain ⟨hσ_23, flσ_23, ngσ_23, go1, go2, go3, go4⟩ := y33
      have frσ_23 : FR [kR_at, kR_faultKind, kR_faultPlace, kR_numberFrom, kR_numberTo, kR_numberWhole, kR_plan, kR_planMany, kR_pointMany, kR_value, kR_xs, kR_ys] σ σ_23 := FR_le flσ_23 (by decide)
      have nfσ_23 : NF σ σ_23 := NF_tr (NF_refl _) ngσ_23
      have c34 := ii_kR_at hσ_23 0
      try simp (disch := omega) only [w32_of, w64_of, w8_of] at go1
      try simp (disch := omega) only [w32_of, w64_of, w8_of] at go2
      have c35 := ii_kR_pointMany hσ_23 32
      have c36 := ii_kR_pointMany hσ 32
      try simp (disch := omega) only [w32_of, w64_of, w8_of] at go3
      try simp (disch := omega) only [w32_of, w64_of, w8_of] at go4
      have pm24 : σ_23 kR_planMany 32 = σ kR_planMany 32 := FR_at flσ_23 (c := kR_planMany) (by decide) 32
      have bq24 := ii_kR_pointMany hσ_23 32
      have bq0 := ii_kR_pointMany hσ 32
      have en2 : (x_24 = true) → ENt σ σ_23 (65536 + number_0 - 1) kind_0 := fun q => by
        obtain ⟨q1, q2⟩ := go3 q
        exact EN_two (n := σ_23 kR_plan (65536 + number_0)) (by omega) (by rw [go4 _ (by omega)]; exact w5) (by rw [show 65536 + number_0 - 1 + 1 = 65536 + number_0 by omega]) (by omega) (fun _ => by omega) (by omega) (by omega) (fun i hi => go4 i (by omega))
      exact wp_some ⟨hσ_23, frσ_23, nfσ_23, (by (try dsimp only) <;> first | assumption | omega | ((try simp (disch := omega) only [w32_of, w64_of, w8_of]) <;> first | assumption | omega | (split <;> omega) | (refine And.intro ?_ ?_ <;> split <;> omega)) | omega), (by (try dsimp only) <;> first | assumption | omega | ((try simp (disch := omega) only [w32_of, w64_of, w8_of]) <;> first | assumption | omega | (split <;> omega) | (refine And.intro ?_ ?_ <;> split <;> omega)) | omega), (by (try dsimp only) <;> (first | exact fun _ => en1 | exact en2 | exact en3))⟩
    · try simp (disch := omega) only [w32_of, w64_of, w8_of, decide_eq_true_eq, decide_eq_false_iff_not, Bool.not_eq_true] at c32
      refine wp_if (fun c37 => ?_) (fun c37 => ?_)
      · try simp (disch := omega) only [w32_of, w64_of, w8_of, decide_eq_true_eq, decide_eq_false_iff_not, Bool.not_eq_true] at c37
        refine wp_bd (v_rings (σ := σ) (number_0 := number_0) hσ (by (try dsimp only) <;> first | assumption | omega | ((try simp (disch := omega) only [w32_of, w64_of, w8_of]) <;> first | assumption | omega | (split <;> omega) | (refine And.intro ?_ ?_ <;> split <;> omega)) | omega) (by (try dsimp only) <;> first | assumption | omega | ((try simp (disch := omega) only [w32_of, w64_of, w8_of]) <;> first | assumption | omega | (split <;> omega) | (refine And.intro ?_ ?_ <;> split <;> omega)) | omega) (by (try dsimp only) <;> first | assumption | omega | ((try simp (disch := omega) only [w32_of, w64_of, w8_of]) <;> first | assumption | omega | (split <;> omega) | (refine And.intro ?_ ?_ <;> split <;> omega)) | omega) (by (try dsimp only) <;> first | assumption | omega | ((try simp (disch := omega) only [w32_of, w64_of, w8_of]) <;> first | assumption | omega | (split <;> omega) | (refine And.intro ?_ ?_ <;> split <;> omega)) | omega) (by (try dsimp only) <;> first | assumption | omega | ((try simp (disch := omega) only [w32_of, w64_of, w8_of]) <;> first | assumption | omega | (split <;> omega) | (refine And.intro ?_ ?_ <;> split <;> omega)) | omega)) ?_
        rintro ⟨x_28, σ_27⟩ - y38
        try dsimp only at y38 ⊢
        obtain ⟨hσ_27, flσ_27, ngσ_27, gg1, gg2, gg3⟩ := y38
        have frσ_27 : FR [kR_at, kR_faultKind, kR_faultPlace, kR_numberFrom, kR_numberTo, kR_numberWhole, kR_plan, kR_planMany, kR_pointMany, kR_value, kR_xs, kR_ys] σ σ_27 := FR_le flσ_27 (by decide)
        have nfσ_27 : NF σ σ_27 := NF_tr (NF_refl _) ngσ_27
        have c39 := ii_kR_at hσ_27 0
        try simp (disch := omega) only [w32_of, w64_of, w8_of] at gg1
        try simp (disch := omega) only [w32_of, w64_of, w8_of] at gg2
        try simp (disch := omega) only [w32_of, w64_of, w8_of] at gg3
        have bq27 := ii_kR_planMany hσ_27 32
        have en3 : (x_28 = true) → ENt σ σ_27 (65536 + number_0 - 1) kind_0 := fun q => by
          have g := gg3 q
          have k3 : kind_0 = 3 := by omega
          rw [k3]
          refine EN_rings ⟨by omega, by omega⟩ (by rw [g.2.2.2.2 _ (by omega)]; omega) (by omega) ?_
          rw [show 65536 + number_0 - 1 + 1 = 65536 + number_0 by omega]; exact g
        exact wp_some ⟨hσ_27, frσ_27, nfσ_27, (by (try dsimp only) <;> first | assumption | omega | ((try simp (disch := omega) only [w32_of, w64_of, w8_of]) <;> first | assumption | omega | (split <;> omega) | (refine And.intro ?_ ?_ <;> split <;> omega)) | omega), (by (try dsimp only) <;> first | assumption | omega | ((try simp (disch := omega) only [w32_of, w64_of, w8_of]) <;> first | assumption | omega | (split <;> omega) | (refine And.intro ?_ ?_ <;> split <;> omega)) | omega), (by (try dsimp only) <;> (first | exact fun _ => en1 | exact en2 | exact en3))⟩
      · try simp (disch := omega) only [w32_of, w64_of, w8_of, decide_eq_true_eq, decide_eq_false_iff_not, Bool.not_eq_true] at c37
        exfalso
        omega
theorem v_part0 {σ : SG} {kind_0 : Int} (hσ : II σ) (qkind_0 : (-3) ≤ kind_0 ∧ kind_0 ≤ 999999999999999999999999999997) (w0 : σ kR_at 0 ≤ σ kR_size 0) (w1 : 1 ≤ kind_0 ∧ kind_0 ≤ 3) : wp_ (fR_part0 σ kind_0) (fun zz_ => II zz_.2 ∧ FR [kR_at, kR_faultKind, kR_faultPlace, kR_numberFrom, kR_numberTo, kR_numberWhole, kR_plan, kR_planMany, kR_pointMany, kR_value, kR_xs, kR_ys] σ zz_.2 ∧ NF σ zz_.2 ∧ (σ kR_at 0 ≤ zz_.2 kR_at 0) ∧ (zz_.2 kR_at 0 ≤ σ kR_size 0) ∧ ((zz_.1 = true) → ENt σ zz_.2 (65536 + σ kR_planMany 32) kind_0)) := by
  unfold fR_part0
  have c1 := ii_kR_at hσ 0
  have c2 := ii_kR_size hσ 0
  refine wp_bd (v_pair (σ := σ) (kind_0 := kind_0) hσ (by (try dsimp only) <;> first | assumption | omega | ((try simp (disch := omega) only [w32_of, w64_of, w8_of]) <;> first | assumption | omega | (split <;> omega) | (refine And.intro ?_ ?_ <;> split <;> omega)) | omega)) ?_
  rintro ⟨x_3, σ_2⟩ - y3
  try dsimp only at y3 ⊢
  obtain ⟨hσ_2, flσ_2, ngσ_2, gp1, gp2, gp3, gp4, gp5, gp6⟩ := y3
  have frσ_2 : FR [kR_at, kR_faultKind, kR_faultPlace, kR_numberFrom, kR_numberTo, kR_numberWhole, kR_plan, kR_planMany, kR_pointMany, kR_value, kR_xs, kR_ys] σ σ_2 := FR_le flσ_2 (by decide)
  have nfσ_2 : NF σ σ_2 := NF_tr (NF_refl _) ngσ_2
  have c4 := ii_kR_at hσ_2 0
  try simp (disch := omega) only [w32_of, w64_of, w8_of] at gp1
  try simp (disch := omega) only [w32_of, w64_of, w8_of] at gp2
  have c5 := ii_kR_planMany hσ_2 32
  have c6 := ii_kR_planMany hσ 32
  try simp (disch := omega) only [w32_of, w64_of, w8_of] at gp3
  try simp (disch := omega) only [w32_of, w64_of, w8_of] at gp4
  try simp (disch := omega) only [w32_of, w64_of, w8_of] at gp5
  try simp (disch := omega) only [w32_of, w64_of, w8_of] at gp6
  refine wp_if (fun c7 => ?_) (fun c7 => ?_)
  · have k8 := gp3 c7
    try simp (disch := omega) only [w32_of, w64_of, w8_of] at k8
    have k9 := gp4 c7
    try simp (disch := omega) only [w32_of, w64_of, w8_of] at k9
    have k10 := gp5 c7
    try simp (disch := omega) only [w32_of, w64_of, w8_of] at k10
    try simp (disch := omega) only [w32_of, w64_of, w8_of, decide_eq_true_eq, decide_eq_false_iff_not, Bool.not_eq_true] at c7
    have hp3 := gp3 (by assumption)
    have hp4 := gp4 (by assumption)
    have hp5 := gp5 (by assumption)
    have hq2 : σ_2 kR_pointMany 32 = σ kR_pointMany 32 := FR_at flσ_2 (c := kR_pointMany) (by decide) 32
    have bm2 := ii_kR_planMany hσ_2 32
    have bm0 := ii_kR_planMany hσ 32
    refine wp_rdI (by (try dsimp only) <;> first | assumption | omega | ((try simp (disch := omega) only [w32_of, w64_of, w8_of]) <;> first | assumption | omega | (split <;> omega) | (refine And.intro ?_ ?_ <;> split <;> omega)) | omega) (by (try dsimp only) <;> first | assumption | omega | ((try simp (disch := omega) only [w32_of, w64_of, w8_of]) <;> first | assumption | omega | (split <;> omega) | (refine And.intro ?_ ?_ <;> split <;> omega)) | omega) (fun x_5 e_x_5 => ?_)
    have b_x_5 : 0 ≤ x_5 ∧ x_5 ≤ 2048 := by rw [e_x_5]; exact ii_kR_planMany hσ_2 _
    try simp (disch := omega) only [w32_of, w64_of, w8_of] at e_x_5
    refine wp_bd (v_here (σ := σ_2) hσ_2) ?_
    rintro x_8 - ⟨g11, g12, g13⟩
    try simp (disch := omega) only [w32_of, w64_of, w8_of] at g11
    try simp (disch := omega) only [w32_of, w64_of, w8_of] at g12
    have c14 := ii_kR_size hσ_2 0
    have c15 := FR_at flσ_2 (c := kR_size) (by decide) 0
    try simp (disch := omega) only [w32_of, w64_of, w8_of] at g13
    have c17 := w32_rng x_8
    refine wp_if (fun c16 => ?_) (fun c16 => ?_)
    · try simp (disch := omega) only [w32_of, w64_of, w8_of, decide_eq_true_eq, decide_eq_false_iff_not, Bool.not_eq_true, fR_isLetter] at c16
      refine wp_bd (v_emptyWord (σ := σ_2) hσ_2 (by (try dsimp only) <;> first | assumption | omega | ((try simp (disch := omega) only [w32_of, w64_of, w8_of]) <;> first | assumption | omega | (split <;> omega) | (refine And.intro ?_ ?_ <;> split <;> omega)) | omega)) ?_
      rintro ⟨x_11, σ_10⟩ - y20
      try dsimp only at y20 ⊢
      obtain ⟨hσ_10, flσ_10, g18, g19⟩ := y20
      have frσ_10 : FR [kR_at, kR_faultKind, kR_faultPlace, kR_numberFrom, kR_numberTo, kR_numberWhole, kR_plan, kR_planMany, kR_pointMany, kR_value, kR_xs, kR_ys] σ σ_10 := FR_tr frσ_2 flσ_10 (by decide) (by decide)
      have nfσ_10 : NF σ σ_10 := NF_fr nfσ_2 flσ_10 (by decide)
      have c21 := ii_kR_at hσ_10 0
      try simp (disch := omega) only [w32_of, w64_of, w8_of] at g18
      try simp (disch := omega) only [w32_of, w64_of, w8_of] at g19
      have en1 : (x_11 = true) → ENt σ σ_10 (65536 + σ kR_planMany 32) kind_0 := fun _ => EN_empty w1 (by rw [FR_at flσ_10 (c := kR_plan) (by decide)]; exact hp4) (by rw [FR_at flσ_10 (c := kR_plan) (by decide)]; exact hp5) (by rw [FR_at flσ_10 (c := kR_planMany) (by decide)]; omega) (by rw [FR_at flσ_10 (c := kR_pointMany) (by decide)]; exact hq2) (fun i hi => by rw [FR_at flσ_10 (c := kR_plan) (by decide)]; exact gp6 i hi)
      exact wp_some ⟨hσ_10, frσ_10, nfσ_10, (by (try dsimp only) <;> first | assumption | omega | ((try simp (disch := omega) only [w32_of, w64_of, w8_of]) <;> first | assumption | omega | (split <;> omega) | (refine And.intro ?_ ?_ <;> split <;> omega)) | omega), (by (try dsimp only) <;> first | assumption | omega | ((try simp (disch := omega) only [w32_of, w64_of, w8_of]) <;> first | assumption | omega | (split <;> omega) | (refine And.intro ?_ ?_ <;> split <;> omega)) | omega), (by (try dsimp only) <;> (first | exact en1 | exact en2 | exact en3))⟩
    · try simp (disch := omega) only [w32_of, w64_of, w8_of, decide_eq_true_eq, decide_eq_false_iff_not, Bool.not_eq_true, fR_isLetter] at c16
      refine wp_if (fun c22 => ?_) (fun c22 => ?_)
      · try simp (disch := omega) only [w32_of, w64_of, w8_of, decide_eq_true_eq, decide_eq_false_iff_not, Bool.not_eq_true] at c22
        refine wp_wfI hσ_2 b_kR_at (by (try dsimp only) <;> first | assumption | omega | ((try simp (disch := omega) only [w32_of, w64_of, w8_of]) <;> first | assumption | omega | (split <;> omega) | (refine And.intro ?_ ?_ <;> split <;> omega)) | omega) (fun σ_13 hσ_13 eσ_13 => ?_)
        try simp (disch := omega) only [w32_of, w64_of, w8_of] at eσ_13
        have flσ_13 := FR_sg eσ_13
        have frσ_13 : FR [kR_at, kR_faultKind, kR_faultPlace, kR_numberFrom, kR_numberTo, kR_numberWhole, kR_plan, kR_planMany, kR_pointMany, kR_value, kR_xs, kR_ys] σ σ_13 := FR_tr frσ_2 flσ_13 (by decide) (by decide)
        have nfσ_13 : NF σ σ_13 := NF_fr nfσ_2 flσ_13 (by decide)
        have z1 : ∀ i, σ_13 kR_plan i = σ_2 kR_plan i := FR_at flσ_13 (c := kR_plan) (by decide)
        have z2 : σ_13 kR_planMany 32 = σ_2 kR_planMany 32 := FR_at flσ_13 (c := kR_planMany) (by decide) 32
        have z3 : σ_13 kR_pointMany 32 = σ_2 kR_pointMany 32 := FR_at flσ_13 (c := kR_pointMany) (by decide) 32
        have z4 : 65536 + (x_5 - 1) = 65536 + σ kR_planMany 32 + 1 := by omega
        have z5 : 65536 + (x_5 - 1) - 1 = 65536 + σ kR_planMany 32 := by omega
        have c23 := ii_kR_at hσ_13 0
        have c24 := sg_val eσ_13
        have c25 := ii_kR_size hσ_13 0
        have c26 := FR_at flσ_13 (c := kR_size) (by decide) 0
        have c27 := FR_at flσ_13 (c := kR_plan) (by decide) (65536 + (x_5 - 1))
        have c28 := ii_kR_planMany hσ_13 32
        have c29 := FR_at flσ_13 (c := kR_planMany) (by decide) 32
        have c30 := FR_at flσ_13 (c := kR_plan) (by decide) (65536 + (x_5 - 1) - 1)
        refine wp_bd (v_body0 (σ := σ_13) (kind_0 := kind_0) (number_0 := (x_5 - 1)) hσ_13 (by (try dsimp only) <;> first | assumption | omega | ((try simp (disch := omega) only [w32_of, w64_of, w8_of]) <;> first | assumption | omega | (split <;> omega) | (refine And.intro ?_ ?_ <;> split <;> omega)) | omega) (by (try dsimp only) <;> first | assumption | omega | ((try simp (disch := omega) only [w32_of, w64_of, w8_of]) <;> first | assumption | omega | (split <;> omega) | (refine And.intro ?_ ?_ <;> split <;> omega)) | omega) (by (try dsimp only) <;> first | assumption | omega | ((try simp (disch := omega) only [w32_of, w64_of, w8_of]) <;> first | assumption | omega | (split <;> omega) | (refine And.intro ?_ ?_ <;> split <;> omega)) | omega) (by (try dsimp only) <;> first | assumption | omega | ((try simp (disch := omega) only [w32_of, w64_of, w8_of]) <;> first | assumption | omega | (split <;> omega) | (refine And.intro ?_ ?_ <;> split <;> omega)) | omega) (by (try dsimp only) <;> first | assumption | omega | ((try simp (disch := omega) only [w32_of, w64_of, w8_of]) <;> first | assumption | omega | (split <;> omega) | (refine And.intro ?_ ?_ <;> split <;> omega)) | omega) (by rw [z4, z1]; exact hp5) (by (try dsimp only) <;> first | assumption | omega | ((try simp (disch := omega) only [w32_of, w64_of, w8_of]) <;> first | assumption | omega | (split <;> omega) | (refine And.intro ?_ ?_ <;> split <;> omega)) | omega) (by rw [z5, z1]; exact hp4)) ?_
        rintro ⟨x_16, σ_15⟩ - y31
        try dsimp only at y31 ⊢
        obtain ⟨hσ_15, flσ_15, ngσ_15, gb1, gb2, gb3⟩ := y31
        have frσ_15 : FR [kR_at, kR_faultKind, kR_faultPlace, kR_numberFrom, kR_numberTo, kR_numberWhole, kR_plan, kR_planMany, kR_pointMany, kR_value, kR_xs, kR_ys] σ σ_15 := FR_tr frσ_13 flσ_15 (by decide) (by decide)
        have nfσ_15 : NF σ σ_15 := NF_tr nfσ_13 ngσ_15
        have c32 := ii_kR_at hσ_15 0
        try simp (disch := omega) only [w32_of, w64_of, w8_of] at gb1
        try simp (disch := omega) only [w32_of, w64_of, w8_of] at gb2
        try simp (disch := omega) only [w32_of, w64_of, w8_of] at gb3
        have en2 : (x_16 = true) → ENt σ σ_15 (65536 + σ kR_planMany 32) kind_0 := fun q => by
          have g := gb3 q
          rw [z5] at g
          exact EN_base g (by omega) (fun i hi => (z1 i).trans (gp6 i hi))
        exact wp_some ⟨hσ_15, frσ_15, nfσ_15, (by (try dsimp only) <;> first | assumption | omega | ((try simp (disch := omega) only [w32_of, w64_of, w8_of]) <;> first | assumption | omega | (split <;> omega) | (refine And.intro ?_ ?_ <;> split <;> omega)) | omega), (by (try dsimp only) <;> first | assumption | omega | ((try simp (disch := omega) only [w32_of, w64_of, w8_of]) <;> first | assumption | omega | (split <;> omega) | (refine And.intro ?_ ?_ <;> split <;> omega)) | omega), (by (try dsimp only) <;> (first | exact en1 | exact en2 | exact en3))⟩
      · try simp (disch := omega) only [w32_of, w64_of, w8_of, decide_eq_true_eq, decide_eq_false_iff_not, Bool.not_eq_true] at c22
        have c34 := w32_rng kind_0
        refine wp_if (fun c33 => ?_) (fun c33 => ?_)
        · try simp (disch := omega) only [w32_of, w64_of, w8_of, decide_eq_true_eq, decide_eq_false_iff_not, Bool.not_eq_true, fR_isDigit, fR_isSign] at c33
          refine wp_bd (v_strange (σ := σ_2) (word_0 := true) hσ_2) ?_
          rintro ⟨x_19, σ_18⟩ - y36
          try dsimp only at y36 ⊢
          obtain ⟨hσ_18, flσ_18, g35⟩ := y36
          have frσ_18 : FR [kR_at, kR_faultKind, kR_faultPlace, kR_numberFrom, kR_numberTo, kR_numberWhole, kR_plan, kR_planMany, kR_pointMany, kR_value, kR_xs, kR_ys] σ σ_18 := FR_tr frσ_2 flσ_18 (by decide) (by decide)
          have nfσ_18 : NF σ σ_18 := NF_fr nfσ_2 flσ_18 (by decide)
          try simp (disch := omega) only [w32_of, w64_of, w8_of] at g35
          have c37 := ii_kR_at hσ_18 0
          have c38 := FR_at flσ_18 (c := kR_at) (by decide) 0
          exact wp_some ⟨hσ_18, frσ_18, nfσ_18, (by (try dsimp only) <;> first | assumption | omega | ((try simp (disch := omega) only [w32_of, w64_of, w8_of]) <;> first | assumption | omega | (split <;> omega) | (refine And.intro ?_ ?_ <;> split <;> omega)) | omega), (by (try dsimp only) <;> first | assumption | omega | ((try simp (disch := omega) only [w32_of, w64_of, w8_of]) <;> first | assumption | omega | (split <;> omega) | (refine And.intro ?_ ?_ <;> split <;> omega)) | omega), (fun q => absurd (q.symm.trans g35) (by decide))⟩
        · try simp (disch := omega) only [w32_of, w64_of, w8_of, decide_eq_true_eq, decide_eq_false_iff_not, Bool.not_eq_true, fR_isDigit, fR_isSign] at c33
          refine wp_bd (v_more (σ := σ_2) (number_0 := (x_5 - 1)) hσ_2 (by (try dsimp only) <;> first | assumption | omega | ((try simp (disch := omega) only [w32_of, w64_of, w8_of]) <;> first | assumption | omega | (split <;> omega) | (refine And.intro ?_ ?_ <;> split <;> omega)) | omega) (by (try dsimp only) <;> first | assumption | omega | ((try simp (disch := omega) only [w32_of, w64_of, w8_of]) <;> first | assumption | omega | (split <;> omega) | (refine And.intro ?_ ?_ <;> split <;> omega)) | omega)) ?_
          rintro σ_21 - ⟨hσ_21, flσ_21, ngσ_21, gm1, gm2⟩
          have frσ_21 : FR [kR_at, kR_faultKind, kR_faultPlace, kR_numberFrom, kR_numberTo, kR_numberWhole, kR_plan, kR_planMany, kR_pointMany, kR_value, kR_xs, kR_ys] σ σ_21 := FR_tr frσ_2 flσ_21 (by decide) (by decide)
          have nfσ_21 : NF σ σ_21 := NF_tr nfσ_2 ngσ_21
          try simp (disch := omega) only [w32_of, w64_of, w8_of] at gm1
          try simp (disch := omega) only [w32_of, w64_of, w8_of] at gm2
          have c39 := ii_kR_at hσ_21 0
          have c40 := FR_at flσ_21 (c := kR_at) (by decide) 0
          have c41 := ii_kR_size hσ_21 0
          have c42 := FR_at flσ_21 (c := kR_size) (by decide) 0
          refine wp_bd (v_coordinate (σ := σ_21) hσ_21 (by (try dsimp only) <;> first | assumption | omega | ((try simp (disch := omega) only [w32_of, w64_of, w8_of]) <;> first | assumption | omega | (split <;> omega) | (refine And.intro ?_ ?_ <;> split <;> omega)) | omega)) ?_
          rintro ⟨x_24, σ_23⟩ - y46
          try dsimp only at y46 ⊢
          obtain ⟨hσ_23, flσ_23, ngσ_23, g43, g44, g45⟩ := y46
          have frσ_23 : FR [kR_at, kR_faultKind, kR_faultPlace, kR_numberFrom, kR_numberTo, kR_numberWhole, kR_plan, kR_planMany, kR_pointMany, kR_value, kR_xs, kR_ys] σ σ_23 := FR_tr frσ_21 flσ_23 (by decide) (by decide)
          have nfσ_23 : NF σ σ_23 := NF_tr nfσ_21 ngσ_23
          have c47 := ii_kR_at hσ_23 0
          try simp (disch := omega) only [w32_of, w64_of, w8_of] at g43
          try simp (disch := omega) only [w32_of, w64_of, w8_of] at g44
          have c48 := ii_kR_pointMany hσ_23 32
          have c49 := ii_kR_pointMany hσ_21 32
          have c50 := FR_at flσ_21 (c := kR_pointMany) (by decide) 32
          have c51 := ii_kR_pointMany hσ_2 32
          have c52 := FR_at flσ_2 (c := kR_pointMany) (by decide) 32
          have c53 := ii_kR_pointMany hσ 32
          try simp (disch := omega) only [w32_of, w64_of, w8_of] at g45
          have z6 : 65536 + (x_5 - 1) = 65536 + σ kR_planMany 32 + 1 := by omega
          have z7 : σ_21 kR_pointMany 32 = σ_2 kR_pointMany 32 := FR_at flσ_21 (c := kR_pointMany) (by decide) 32
          have z8 : σ_23 kR_planMany 32 = σ_2 kR_planMany 32 := by rw [FR_at flσ_23 (c := kR_planMany) (by decide), FR_at flσ_21 (c := kR_planMany) (by decide)]
          rw [z6] at gm1 gm2
          have en3 : (x_24 = true) → ENt σ σ_23 (65536 + σ kR_planMany 32) kind_0 := fun q => by
            have q2 : σ_23 kR_pointMany 32 = σ_21 kR_pointMany 32 + 1 := by simp_all
            exact EN_two (n := 1) (by omega) (by rw [FR_at flσ_23 (c := kR_plan) (by decide), gm2 _ (by omega)]; exact hp4) (by rw [FR_at flσ_23 (c := kR_plan) (by decide), gm1, hp5]; rfl) (by omega) (fun _ => by omega) (by omega) (by omega) (fun i hi => by rw [FR_at flσ_23 (c := kR_plan) (by decide), gm2 i (by omega)]; exact gp6 i hi)
          exact wp_some ⟨hσ_23, frσ_23, nfσ_23, (by (try dsimp only) <;> first | assumption | omega | ((try simp (disch := omega) only [w32_of, w64_of, w8_of]) <;> first | assumption | omega | (split <;> omega) | (refine And.intro ?_ ?_ <;> split <;> omega)) | omega), (by (try dsimp only) <;> first | assumption | omega | ((try simp (disch := omega) only [w32_of, w64_of, w8_of]) <;> first | assumption | omega | (split <;> omega) | (refine And.intro ?_ ?_ <;> split <;> omega)) | omega), (by (try dsimp only) <;> (first | exact en1 | exact en2 | exact en3))⟩
  · try simp (disch := omega) only [w32_of, w64_of, w8_of, decide_eq_true_eq, decide_eq_false_iff_not, Bool.not_eq_true] at c7
    exact wp_some ⟨hσ_2, frσ_2, nfσ_2, (by (try dsimp only) <;> first | assumption | omega | ((try simp (disch := omega) only [w32_of, w64_of, w8_of]) <;> first | assumption | omega | (split <;> omega) | (refine And.intro ?_ ?_ <;> split <;> omega)) | omega), (by (try dsimp only) <;> first | assumption | omega | ((try simp (disch := omega) only [w32_of, w64_of, w8_of]) <;> first | assumption | omega | (split <;> omega) | (refine And.intro ?_ ?_ <;> split <;> omega)) | omega), (fun q => (by cases q))⟩
theorem v_parts0 {σ : SG} {kind_0 : Int} {number_0 : Int} (hσ : II σ) (qnumber_0 : (-1) ≤ number_0 ∧ number_0 ≤ 2047) (w0 : σ kR_at 0 ≤ σ kR_size 0) (w1 : 1 ≤ number_0 ∧ number_0 ≤ 2047) (w2 : 4 ≤ kind_0 ∧ kind_0 ≤ 6) (w3 : σ kR_plan (65536 + number_0) = 0) (w4 : σ kR_planMany 32 = number_0 + 1) : wp_ (fR_parts0 σ kind_0 number_0) (fun zz_ => II zz_.2 ∧ FR [kR_at, kR_faultKind, kR_faultPlace, kR_numberFrom, kR_numberTo, kR_numberWhole, kR_plan, kR_planMany, kR_pointMany, kR_value, kR_xs, kR_ys] σ zz_.2 ∧ NF σ zz_.2 ∧ (σ kR_at 0 ≤ zz_.2 kR_at 0) ∧ (zz_.2 kR_at 0 ≤ σ kR_size 0) ∧ ((zz_.1 = true) → PTc σ zz_.2 (65536 + number_0) (kind_0 - 3))) := by
  unfold fR_parts0
  have c1 := ii_kR_at hσ 0
  have c2 := ii_kR_size hσ 0
  have c3 := ii_kR_planMany hσ 32
  refine wp_bx (P := fun rr_ => ((-1) ≤ rr_.1 ∧ rr_.1 ≤ 0) ∧ II rr_.2 ∧ FR [kR_at, kR_faultKind, kR_faultPlace, kR_numberFrom, kR_numberTo, kR_numberWhole, kR_plan, kR_planMany, kR_pointMany, kR_value, kR_xs, kR_ys] σ rr_.2 ∧ NF σ rr_.2 ∧ (σ kR_at 0 ≤ rr_.2 kR_at 0) ∧ (rr_.2 kR_at 0 ≤ σ kR_size 0) ∧ (PT (rr_.2 kR_plan) (kind_0 - 3) (rr_.2 kR_plan (65536 + number_0)).toNat (65536 + number_0 + 1) (65536 + rr_.2 kR_planMany 32)) ∧ (FL (rr_.2 kR_plan) (rr_.2 kR_plan (65536 + number_0)).toNat (65536 + number_0 + 1) (65536 + rr_.2 kR_planMany 32) (rr_.2 kR_pointMany 32 - σ kR_pointMany 32)) ∧ (∀ i, i < 65536 + number_0 → rr_.2 kR_plan i = σ kR_plan i) ∧ (rr_.1 = 1 ∨ 1 ≤ rr_.2 kR_plan (65536 + number_0))) ?_ ?_
  · have c4 := ii_kR_pointMany hσ 32
    refine wp_whl (fun ss_ => ((-1) ≤ ss_.1 ∧ ss_.1 ≤ 1) ∧ II ss_.2 ∧ FR [kR_at, kR_faultKind, kR_faultPlace, kR_numberFrom, kR_numberTo, kR_numberWhole, kR_plan, kR_planMany, kR_pointMany, kR_value, kR_xs, kR_ys] σ ss_.2 ∧ NF σ ss_.2 ∧ (σ kR_at 0 ≤ ss_.2 kR_at 0) ∧ (ss_.2 kR_at 0 ≤ σ kR_size 0) ∧ (0 ≤ ss_.2 kR_plan (65536 + number_0) ∧ number_0 + 1 + 2 * ss_.2 kR_plan (65536 + number_0) ≤ ss_.2 kR_planMany 32) ∧ (PT (ss_.2 kR_plan) (kind_0 - 3) (ss_.2 kR_plan (65536 + number_0)).toNat (65536 + number_0 + 1) (65536 + ss_.2 kR_planMany 32)) ∧ (FL (ss_.2 kR_plan) (ss_.2 kR_plan (65536 + number_0)).toNat (65536 + number_0 + 1) (65536 + ss_.2 kR_planMany 32) (ss_.2 kR_pointMany 32 - σ kR_pointMany 32)) ∧ (∀ i, i < 65536 + number_0 → ss_.2 kR_plan i = σ kR_plan i) ∧ (ss_.1 = 1 ∨ 1 ≤ ss_.2 kR_plan (65536 + number_0))) (fun ss_ => (2 * (65536 - ss_.2 kR_at 0) + ss_.1 + 1).toNat) ⟨(by (try dsimp only) <;> first | assumption | omega | ((try simp (disch := omega) only [w32_of, w64_of, w8_of]) <;> first | assumption | omega | (split <;> omega) | (refine And.intro ?_ ?_ <;> split <;> omega)) | omega), hσ, (FR_refl _ _), (NF_refl _), (by (try dsimp only) <;> first | assumption | omega | ((try simp (disch := omega) only [w32_of, w64_of, w8_of]) <;> first | assumption | omega | (split <;> omega) | (refine And.intro ?_ ?_ <;> split <;> omega)) | omega), (by (try dsimp only) <;> first | assumption | omega | ((try simp (disch := omega) only [w32_of, w64_of, w8_of]) <;> first | assumption | omega | (split <;> omega) | (refine And.intro ?_ ?_ <;> split <;> omega)) | omega), (by (try dsimp only) <;> first | assumption | omega | ((try simp (disch := omega) only [w32_of, w64_of, w8_of]) <;> first | assumption | omega | (split <;> omega) | (refine And.intro ?_ ?_ <;> split <;> omega)) | omega), (by (try dsimp only) <;> (first | exact gP | exact ps1 | (rw [w3]; show 65536 + number_0 + 1 = 65536 + σ kR_planMany 32; omega))), (by (try dsimp only) <;> (first | exact gF | exact ps2 | (rw [w3]; exact ⟨by omega, by omega⟩))), (by (try dsimp only) <;> (first | exact gn | (intro i hi; rfl) | (intro i hi; rw [po i (by omega), ep5 i (by omega)]; exact gn i hi))), (by (try dsimp only) <;> first | assumption | omega | ((try simp (disch := omega) only [w32_of, w64_of, w8_of]) <;> first | assumption | omega | (split <;> omega) | (refine And.intro ?_ ?_ <;> split <;> omega)) | omega)⟩ ?_
    rintro ⟨on_1, σ_2⟩ y10
    try dsimp only at y10 ⊢
    obtain ⟨g5, hσ_2, frσ_2, nfσ_2, g6, g7, g8, gP, gF, gn, g9⟩ := y10
    have c12 := w32_rng on_1
    refine wp_if (fun c11 => ?_) (fun c11 => ?_)
    · try simp (disch := omega) only [w32_of, w64_of, w8_of, decide_eq_true_eq, decide_eq_false_iff_not, Bool.not_eq_true] at c11
      have c13 := ii_kR_at hσ_2 0
      have c14 := ii_kR_size hσ_2 0
      have c15 := FR_at frσ_2 (c := kR_size) (by decide) 0
      refine wp_bd (v_part0 (σ := σ_2) (kind_0 := (kind_0 - 3)) hσ_2 (by (try dsimp only) <;> first | assumption | omega | ((try simp (disch := omega) only [w32_of, w64_of, w8_of]) <;> first | assumption | omega | (split <;> omega) | (refine And.intro ?_ ?_ <;> split <;> omega)) | omega) (by (try dsimp only) <;> first | assumption | omega | ((try simp (disch := omega) only [w32_of, w64_of, w8_of]) <;> first | assumption | omega | (split <;> omega) | (refine And.intro ?_ ?_ <;> split <;> omega)) | omega) (by (try dsimp only) <;> first | assumption | omega | ((try simp (disch := omega) only [w32_of, w64_of, w8_of]) <;> first | assumption | omega | (split <;> omega) | (refine And.intro ?_ ?_ <;> split <;> omega)) | omega)) ?_
      rintro ⟨x_13, σ_12⟩ - y16
      try dsimp only at y16 ⊢
      obtain ⟨hσ_12, flσ_12, ngσ_12, gp1, gp2, gp3⟩ := y16
      have frσ_12 : FR [kR_at, kR_faultKind, kR_faultPlace, kR_numberFrom, kR_numberTo, kR_numberWhole, kR_plan, kR_planMany, kR_pointMany, kR_value, kR_xs, kR_ys] σ σ_12 := FR_tr frσ_2 flσ_12 (by decide) (by decide)
      have nfσ_12 : NF σ σ_12 := NF_tr nfσ_2 ngσ_12
      have c17 := ii_kR_at hσ_12 0
      try simp (disch := omega) only [w32_of, w64_of, w8_of] at gp1
      try simp (disch := omega) only [w32_of, w64_of, w8_of] at gp2
      have c18 := ii_kR_planMany hσ_2 32
      try simp (disch := omega) only [w32_of, w64_of, w8_of] at gp3
      refine wp_if (fun c19 => ?_) (fun c19 => ?_)
      · have k20 := gp3 c19
        try simp (disch := omega) only [w32_of, w64_of, w8_of] at k20
        try simp (disch := omega) only [w32_of, w64_of, w8_of, decide_eq_true_eq, decide_eq_false_iff_not, Bool.not_eq_true] at c19
        refine wp_bd (v_more (σ := σ_12) (number_0 := number_0) hσ_12 (by (try dsimp only) <;> first | assumption | omega | ((try simp (disch := omega) only [w32_of, w64_of, w8_of]) <;> first | assumption | omega | (split <;> omega) | (refine And.intro ?_ ?_ <;> split <;> omega)) | omega) (by (try dsimp only) <;> first | assumption | omega | ((try simp (disch := omega) only [w32_of, w64_of, w8_of]) <;> first | assumption | omega | (split <;> omega) | (refine And.intro ?_ ?_ <;> split <;> omega)) | omega)) ?_
        rintro σ_16 - ⟨hσ_16, flσ_16, ngσ_16, gm1, gm2⟩
        have frσ_16 : FR [kR_at, kR_faultKind, kR_faultPlace, kR_numberFrom, kR_numberTo, kR_numberWhole, kR_plan, kR_planMany, kR_pointMany, kR_value, kR_xs, kR_ys] σ σ_16 := FR_tr frσ_12 flσ_16 (by decide) (by decide)
        have nfσ_16 : NF σ σ_16 := NF_tr nfσ_12 ngσ_16
        try simp (disch := omega) only [w32_of, w64_of, w8_of] at gm1
        try simp (disch := omega) only [w32_of, w64_of, w8_of] at gm2
        have en := gp3 (by assumption)
        have ep5 := en.2.2.2.2
        have c21 := ii_kR_at hσ_16 0
        have c22 := FR_at flσ_16 (c := kR_at) (by decide) 0
        have c23 := ii_kR_size hσ_16 0
        have c24 := FR_at flσ_16 (c := kR_size) (by decide) 0
        have c25 := ii_kR_size hσ_12 0
        have c26 := FR_at flσ_12 (c := kR_size) (by decide) 0
        refine wp_bd (v_goesOn (σ := σ_16) hσ_16 (by (try dsimp only) <;> first | assumption | omega | ((try simp (disch := omega) only [w32_of, w64_of, w8_of]) <;> first | assumption | omega | (split <;> omega) | (refine And.intro ?_ ?_ <;> split <;> omega)) | omega)) ?_
        rintro ⟨x_19, σ_18⟩ - y31
        try dsimp only at y31 ⊢
        obtain ⟨g27, hσ_18, flσ_18, g28, g29, g30⟩ := y31
        have frσ_18 : FR [kR_at, kR_faultKind, kR_faultPlace, kR_numberFrom, kR_numberTo, kR_numberWhole, kR_plan, kR_planMany, kR_pointMany, kR_value, kR_xs, kR_ys] σ σ_18 := FR_tr frσ_16 flσ_18 (by decide) (by decide)
        have nfσ_18 : NF σ σ_18 := NF_fr nfσ_16 flσ_18 (by decide)
        try simp (disch := omega) only [w32_of, w64_of, w8_of] at g27
        have c32 := ii_kR_at hσ_18 0
        try simp (disch := omega) only [w32_of, w64_of, w8_of] at g28
        try simp (disch := omega) only [w32_of, w64_of, w8_of] at g29
        try simp (disch := omega) only [w32_of, w64_of, w8_of] at g30
        have po : ∀ i, i ≠ 65536 + number_0 → σ_18 kR_plan i = σ_12 kR_plan i := fun i hi => by rw [FR_at flσ_18 (c := kR_plan) (by decide), gm2 i hi]
        have pk : σ_18 kR_plan (65536 + number_0) = σ_2 kR_plan (65536 + number_0) + 1 := by rw [FR_at flσ_18 (c := kR_plan) (by decide), gm1, ep5 _ (by omega)]
        obtain ⟨ps1, ps2, ps3⟩ := PT_step (υ := σ_18) (by omega) gP gF en po (by rw [FR_at flσ_18 (c := kR_planMany) (by decide), FR_at flσ_16 (c := kR_planMany) (by decide)]) (by rw [FR_at flσ_18 (c := kR_pointMany) (by decide), FR_at flσ_16 (c := kR_pointMany) (by decide)])
        rw [show (σ_2 kR_plan (65536 + number_0)).toNat + 1 = (σ_18 kR_plan (65536 + number_0)).toNat by omega] at ps1 ps2
        have c33 := FR_at flσ_18 (c := kR_plan) (by decide) (65536 + number_0)
        have c34 := ii_kR_planMany hσ_18 32
        have c35 := FR_at flσ_18 (c := kR_planMany) (by decide) 32
        have c36 := ii_kR_planMany hσ_16 32
        have c37 := FR_at flσ_16 (c := kR_planMany) (by decide) 32
        have c38 := ii_kR_planMany hσ_12 32
        have c39 := ii_kR_pointMany hσ_18 32
        have c40 := FR_at flσ_18 (c := kR_pointMany) (by decide) 32
        have c41 := ii_kR_pointMany hσ_16 32
        have c42 := FR_at flσ_16 (c := kR_pointMany) (by decide) 32
        have c43 := ii_kR_pointMany hσ_12 32
        exact wp_some (x_inl ⟨⟨(by (try dsimp only) <;> first | assumption | omega | ((try simp (disch := omega) only [w32_of, w64_of, w8_of]) <;> first | assumption | omega | (split <;> omega) | (refine And.intro ?_ ?_ <;> split <;> omega)) | omega), hσ_18, frσ_18, nfσ_18, (by (try dsimp only) <;> first | assumption | omega | ((try simp (disch := omega) only [w32_of, w64_of, w8_of]) <;> first | assumption | omega | (split <;> omega) | (refine And.intro ?_ ?_ <;> split <;> omega)) | omega), (by (try dsimp only) <;> first | assumption | omega | ((try simp (disch := omega) only [w32_of, w64_of, w8_of]) <;> first | assumption | omega | (split <;> omega) | (refine And.intro ?_ ?_ <;> split <;> omega)) | omega), (by (try dsimp only) <;> first | assumption | omega | ((try simp (disch := omega) only [w32_of, w64_of, w8_of]) <;> first | assumption | omega | (split <;> omega) | (refine And.intro ?_ ?_ <;> split <;> omega)) | omega), (by (try dsimp only) <;> (first | exact gP | exact ps1 | (rw [w3]; show 65536 + number_0 + 1 = 65536 + σ kR_planMany 32; omega))), (by (try dsimp only) <;> (first | exact gF | exact ps2 | (rw [w3]; exact ⟨by omega, by omega⟩))), (by (try dsimp only) <;> (first | exact gn | (intro i hi; rfl) | (intro i hi; rw [po i (by omega), ep5 i (by omega)]; exact gn i hi))), (by (try dsimp only) <;> first | assumption | omega | ((try simp (disch := omega) only [w32_of, w64_of, w8_of]) <;> first | assumption | omega | (split <;> omega) | (refine And.intro ?_ ?_ <;> split <;> omega)) | omega)⟩, (by (try dsimp only) <;> first | assumption | omega | ((try simp (disch := omega) only [w32_of, w64_of, w8_of]) <;> first | assumption | omega | (split <;> omega) | (refine And.intro ?_ ?_ <;> split <;> omega)) | omega)⟩)
      · try simp (disch := omega) only [w32_of, w64_of, w8_of, decide_eq_true_eq, decide_eq_false_iff_not, Bool.not_eq_true] at c19
        exact wp_some (x_inr (x_inr ⟨hσ_12, frσ_12, nfσ_12, (by (try dsimp only) <;> first | assumption | omega | ((try simp (disch := omega) only [w32_of, w64_of, w8_of]) <;> first | assumption | omega | (split <;> omega) | (refine And.intro ?_ ?_ <;> split <;> omega)) | omega), (by (try dsimp only) <;> first | assumption | omega | ((try simp (disch := omega) only [w32_of, w64_of, w8_of]) <;> first | assumption | omega | (split <;> omega) | (refine And.intro ?_ ?_ <;> split <;> omega)) | omega), (fun q => (by cases q))⟩))
    · try simp (disch := omega) only [w32_of, w64_of, w8_of, decide_eq_true_eq, decide_eq_false_iff_not, Bool.not_eq_true] at c11
      have c45 := ii_kR_at hσ_2 0
      have c46 := ii_kR_planMany hσ_2 32
      have c47 := ii_kR_pointMany hσ_2 32
      exact wp_some (x_inr (x_inl ⟨(by (try dsimp only) <;> first | assumption | omega | ((try simp (disch := omega) only [w32_of, w64_of, w8_of]) <;> first | assumption | omega | (split <;> omega) | (refine And.intro ?_ ?_ <;> split <;> omega)) | omega), hσ_2, frσ_2, nfσ_2, (by (try dsimp only) <;> first | assumption | omega | ((try simp (disch := omega) only [w32_of, w64_of, w8_of]) <;> first | assumption | omega | (split <;> omega) | (refine And.intro ?_ ?_ <;> split <;> omega)) | omega), (by (try dsimp only) <;> first | assumption | omega | ((try simp (disch := omega) only [w32_of, w64_of, w8_of]) <;> first | assumption | omega | (split <;> omega) | (refine And.intro ?_ ?_ <;> split <;> omega)) | omega), (by (try dsimp only) <;> (exact gP)), (by (try dsimp only) <;> (exact gF)), (by (try dsimp only) <;> (exact gn)), (by (try dsimp only) <;> first | assumption | omega | ((try simp (disch := omega) only [w32_of, w64_of, w8_of]) <;> first | assumption | omega | (split <;> omega) | (refine And.intro ?_ ?_ <;> split <;> omega)) | omega)⟩))
  rintro ⟨on_22, σ_23⟩ y52
  try dsimp only at y52 ⊢
  obtain ⟨g48, hσ_23, frσ_23, nfσ_23, g49, g50, gP, gF, gn, g51⟩ := y52
  have c53 := ii_kR_at hσ_23 0
  exact wp_some ⟨hσ_23, frσ_23, nfσ_23, (by (try dsimp only) <;> first | assumption | omega | ((try simp (disch := omega) only [w32_of, w64_of, w8_of]) <;> first | assumption | omega | (split <;> omega) | (refine And.intro ?_ ?_ <;> split <;> omega)) | omega), (by (try dsimp only) <;> first | assumption | omega | ((try simp (disch := omega) only [w32_of, w64_of, w8_of]) <;> first | assumption | omega | (split <;> omega) | (refine And.intro ?_ ?_ <;> split <;> omega)) | omega), (by (try dsimp only) <;> (first | (intro q; have q2 := of_decide_eq_true q; simp (disch := omega) only [w32_of] at q2; exact ⟨by omega, gP, gF, gn⟩)))⟩
theorem v_body {σ : SG} {kind_0 : Int} {number_0 : Int} (hσ : II σ) (qnumber_0 : (-1) ≤ number_0 ∧ number_0 ≤ 2047) (w0 : σ kR_at 0 ≤ σ kR_size 0) (w1 : 1 ≤ number_0 ∧ number_0 ≤ 2047) (w2 : 1 ≤ kind_0 ∧ kind_0 ≤ 6) (w3 : σ kR_plan (65536 + number_0) = 0) (w4 : σ kR_planMany 32 = number_0 + 1) (w5 : σ kR_plan (65536 + number_0 - 1) = kind_0) : wp_ (fR_body σ kind_0 number_0) (fun zz_ => II zz_.2 ∧ FR [kR_at, kR_faultKind, kR_faultPlace, kR_numberFrom, kR_numberTo, kR_numberWhole, kR_plan, kR_planMany, kR_pointMany, kR_value, kR_xs, kR_ys] σ zz_.2 ∧ NF σ zz_.2 ∧ (σ kR_at 0 ≤ zz_.2 kR_at 0) ∧ (zz_.2 kR_at 0 ≤ σ kR_size 0) ∧ ((zz_.1 = true) → UN σ zz_.2 (65536 + number_0 - 1))) := by
  unfold fR_body
  have c1 := ii_kR_at hσ 0
  have c2 := ii_kR_size hσ 0
  have c3 := ii_kR_planMany hσ 32
  have c5 := w32_rng kind_0
  refine wp_if (fun c4 => ?_) (fun c4 => ?_)
  · try simp (disch := omega) only [w32_of, w64_of, w8_of, decide_eq_true_eq, decide_eq_false_iff_not, Bool.not_eq_true] at c4
    refine wp_bd (v_more (σ := σ) (number_0 := number_0) hσ (by (try dsimp only) <;> first | assumption | omega | ((try simp (disch := omega) only [w32_of, w64_of, w8_of]) <;> first | assumption | omega | (split <;> omega) | (refine And.intro ?_ ?_ <;> split <;> omega)) | omega) (by (try dsimp only) <;> first | assumption | omega | ((try simp (disch := omega) only [w32_of, w64_of, w8_of]) <;> first | assumption | omega | (split <;> omega) | (refine And.intro ?_ ?_ <;> split <;> omega)) | omega)) ?_
    rintro σ_3 - ⟨hσ_3, flσ_3, ngσ_3, gm1, gm2⟩
    have frσ_3 : FR [kR_at, kR_faultKind, kR_faultPlace, kR_numberFrom, kR_numberTo, kR_numberWhole, kR_plan, kR_planMany, kR_pointMany, kR_value, kR_xs, kR_ys] σ σ_3 := FR_le flσ_3 (by decide)
    have nfσ_3 : NF σ σ_3 := NF_tr (NF_refl _) ngσ_3
    try simp (disch := omega) only [w32_of, w64_of, w8_of] at gm1
    try simp (disch := omega) only [w32_of, w64_of, w8_of] at gm2
    refine wp_bdk ?_
    have c6 := ii_kR_at hσ_3 0
    have c7 := FR_at flσ_3 (c := kR_at) (by decide) 0
    have c8 := ii_kR_size hσ_3 0
    have c9 := FR_at flσ_3 (c := kR_size) (by decide) 0
    refine wp_bd (v_coordinate (σ := σ_3) hσ_3 (by (try dsimp only) <;> first | assumption | omega | ((try simp (disch := omega) only [w32_of, w64_of, w8_of]) <;> first | assumption | omega | (split <;> omega) | (refine And.intro ?_ ?_ <;> split <;> omega)) | omega)) ?_
    rintro ⟨x_6, σ_5⟩ - y13
    try dsimp only at y13 ⊢
    obtain ⟨hσ_5, flσ_5, ngσ_5, g10, g11, g12⟩ := y13
    have frσ_5 : FR [kR_at, kR_faultKind, kR_faultPlace, kR_numberFrom, kR_numberTo, kR_numberWhole, kR_plan, kR_planMany, kR_pointMany, kR_value, kR_xs, kR_ys] σ σ_5 := FR_tr frσ_3 flσ_5 (by decide) (by decide)
    have nfσ_5 : NF σ σ_5 := NF_tr nfσ_3 ngσ_5
    have c14 := ii_kR_at hσ_5 0
    try simp (disch := omega) only [w32_of, w64_of, w8_of] at g10
    try simp (disch := omega) only [w32_of, w64_of, w8_of] at g11
    have c15 := ii_kR_pointMany hσ_5 32
    have c16 := ii_kR_pointMany hσ_3 32
    have c17 := FR_at flσ_3 (c := kR_pointMany) (by decide) 32
    have c18 := ii_kR_pointMany hσ 32
    try simp (disch := omega) only [w32_of, w64_of, w8_of] at g12
    refine wp_if (fun c19 => ?_) (fun c19 => ?_)
    · have k20 := g12 c19
      try simp (disch := omega) only [w32_of, w64_of, w8_of] at k20
      try simp (disch := omega) only [w32_of, w64_of, w8_of, decide_eq_true_eq, decide_eq_false_iff_not, Bool.not_eq_true] at c19
      have c21 := ii_kR_size hσ_5 0
      have c22 := FR_at flσ_5 (c := kR_size) (by decide) 0
      refine wp_bd (v_closes (σ := σ_5) hσ_5 (by (try dsimp only) <;> first | assumption | omega | ((try simp (disch := omega) only [w32_of, w64_of, w8_of]) <;> first | assumption | omega | (split <;> omega) | (refine And.intro ?_ ?_ <;> split <;> omega)) | omega)) ?_
      rintro ⟨x_10, σ_9⟩ - y26
      try dsimp only at y26 ⊢
      obtain ⟨hσ_9, flσ_9, g23, g24, g25⟩ := y26
      have frσ_9 : FR [kR_at, kR_faultKind, kR_faultPlace, kR_numberFrom, kR_numberTo, kR_numberWhole, kR_plan, kR_planMany, kR_pointMany, kR_value, kR_xs, kR_ys] σ σ_9 := FR_tr frσ_5 flσ_9 (by decide) (by decide)
      have nfσ_9 : NF σ σ_9 := NF_fr nfσ_5 flσ_9 (by decide)
      have c27 := ii_kR_at hσ_9 0
      try simp (disch := omega) only [w32_of, w64_of, w8_of] at g23
      try simp (disch := omega) only [w32_of, w64_of, w8_of] at g24
      try simp (disch := omega) only [w32_of, w64_of, w8_of] at g25
      refine wp_if (fun c28 => ?_) (fun c28 => ?_)
      · have k29 := g25 c28
        try simp (disch := omega) only [w32_of, w64_of, w8_of] at k29
        try simp (disch := omega) only [w32_of, w64_of, w8_of, decide_eq_true_eq, decide_eq_false_iff_not, Bool.not_eq_true] at c28
        have pp9 : ∀ i, σ_9 kR_plan i = σ_3 kR_plan i := fun i => by rw [FR_at flσ_9 (c := kR_plan) (by decide), FR_at flσ_5 (c := kR_plan) (by decide)]
        have m3 : σ_3 kR_pointMany 32 = σ kR_pointMany 32 := FR_at flσ_3 (c := kR_pointMany) (by decide) 32
        have m9 : σ_9 kR_pointMany 32 = σ_5 kR_pointMany 32 := FR_at flσ_9 (c := kR_pointMany) (by decide) 32
        have pm9 : σ_9 kR_planMany 32 = σ kR_planMany 32 := by rw [FR_at flσ_9 (c := kR_planMany) (by decide), FR_at flσ_5 (c := kR_planMany) (by decide), FR_at flσ_3 (c := kR_planMany) (by decide)]
        have en1 : ENt σ σ_9 (65536 + number_0 - 1) kind_0 := EN_two (n := 1) (by omega) (by rw [pp9, gm2 _ (by omega)]; exact w5) (by rw [pp9, show 65536 + number_0 - 1 + 1 = 65536 + number_0 by omega, gm1, w3]; rfl) (by omega) (fun _ => by omega) (by omega) (by omega) (fun i hi => by rw [pp9, gm2 i (by omega)])
        refine wp_somek ?_
        try dsimp only
        exact wp_some ⟨hσ_9, frσ_9, nfσ_9, (by (try dsimp only) <;> first | assumption | omega | ((try simp (disch := omega) only [w32_of, w64_of, w8_of]) <;> first | assumption | omega | (split <;> omega) | (refine And.intro ?_ ?_ <;> split <;> omega)) | omega), (by (try dsimp only) <;> first | assumption | omega | ((try simp (disch := omega) only [w32_of, w64_of, w8_of]) <;> first | assumption | omega | (split <;> omega) | (refine And.intro ?_ ?_ <;> split <;> omega)) | omega), (by (try dsimp only) <;> (first | exact fun _ => UN_EN (by omega) en1 | exact fun q => UN_EN (by omega) (en2 q) | exact fun q => UN_EN (by omega) (en3 q) | exact en4))⟩
      · try simp (disch := omega) only [w32_of, w64_of, w8_of, decide_eq_true_eq, decide_eq_false_iff_not, Bool.not_eq_true] at c28
        refine wp_somek ?_
        try dsimp only
        exact wp_some ⟨hσ_9, frσ_9, nfσ_9, (by (try dsimp only) <;> first | assumption | omega | ((try simp (disch := omega) only [w32_of, w64_of, w8_of]) <;> first | assumption | omega | (split <;> omega) | (refine And.intro ?_ ?_ <;> split <;> omega)) | omega), (by (try dsimp only) <;> first | assumption | omega | ((try simp (disch := omega) only [w32_of, w64_of, w8_of]) <;> first | assumption | omega | (split <;> omega) | (refine And.intro ?_ ?_ <;> split <;> omega)) | omega), (fun q => (by cases q))⟩
    · try simp (disch := omega) only [w32_of, w64_of, w8_of, decide_eq_true_eq, decide_eq_false_iff_not, Bool.not_eq_true] at c19
      refine wp_somek ?_
      try dsimp only
      exact wp_some ⟨hσ_5, frσ_5, nfσ_5, (by (try dsimp only) <;> first | assumption | omega | ((try simp (disch := omega) only [w32_of, w64_of, w8_of]) <;> first | assumption | omega | (split <;> omega) | (refine And.intro ?_ ?_ <;> split <;> omega)) | omega), (by (try dsimp only) <;> first | assumption | omega | ((try simp (disch := omega) only [w32_of, w64_of, w8_of]) <;> first | assumption | omega | (split <;> omega) | (refine And.intro ?_ ?_ <;> split <;> omega)) | omega), (fun q => (by cases q))⟩
  · try simp (disch := omega) only [w32_of, w64_of, w8_of, decide_eq_true_eq, decide_eq_false_iff_not, Bool.not_eq_true] at c4
    refine wp_if (fun c32 => ?_) (fun c32 => ?_)
    · try simp (disch := omega) only [w32_of, w64_of, w8_of, decide_eq_true_eq, decide_eq_false_iff_not, Bool.not_eq_true] at c32
      refine wp_bd (v_row (σ := σ) (number_0 := number_0) hσ (by (try dsimp only) <;> first | assumption | omega | ((try simp (disch := omega) only [w32_of, w64_of, w8_of]) <;> first | assumption | omega | (split <;> omega) | (refine And.intro ?_ ?_ <;> split <;> omega)) | omega) (by (try dsimp only) <;> first | assumption | omega | ((try simp (disch := omega) only [w32_of, w64_of, w8_of]) <;> first | assumption | omega | (split <;> omega) | (refine And.intro ?_ ?_ <;> split <;> omega)) | omega) (by (try dsimp only) <;> first | assumption | omega | ((try simp (disch := omega) only [w32_of, w64_of, w8_of]) <;> first | assumption | omega | (split <;> omega) | (refine And.intro ?_ ?_ <;> split <;> omega)) | omega) (by (try dsimp only) <;> first | assumption | omega | ((try simp (disch := omega) only [w32_of, w64_of, w8_of]) <;> first | assumption | omega | (split <;> omega) | (refine And.intro ?_ ?_ <;> split <;> omega)) | omega)) ?_
      rintro ⟨x_24, σ_23⟩ - y33
      try dsimp only at y33 ⊢
      obtain ⟨hσ_23, flσ_23, ngσ_23, go1, go2, go3, go4⟩ := y33
      have frσ_23 : FR [kR_at, kR_faultKind, kR_faultPlace, kR_numberFrom, kR_numberTo, kR_numberWhole, kR_plan, kR_planMany, kR_pointMany, kR_value, kR_xs, kR_ys] σ σ_23 := FR_le flσ_23 (by decide)
      have nfσ_23 : NF σ σ_23 := NF_tr (NF_refl _) ngσ_23
      have c34 := ii_kR_at hσ_23 0
      try simp (disch := omega) only [w32_of, w64_of, w8_of] at go1
      try simp (disch := omega) only [w32_of, w64_of, w8_of] at go2
      have c35 := ii_kR_pointMany hσ_23 32
      have c36 := ii_kR_pointMany hσ 32
      try simp (disch := omega) only [w32_of, w64_of, w8_of] at go3
      try simp (disch := omega) only [w32_of, w64_of, w8_of] at go4
      have pm24 : σ_23 kR_planMany 32 = σ kR_planMany 32 := FR_at flσ_23 (c := kR_planMany) (by decide) 32
      have bq24 := ii_kR_pointMany hσ_23 32
      have bq0 := ii_kR_pointMany hσ 32
      have en2 : (x_24 = true) → ENt σ σ_23 (65536 + number_0 - 1) kind_0 := fun q => by
        obtain ⟨q1, q2⟩ := go3 q
        exact EN_two (n := σ_23 kR_plan (65536 + number_0)) (by omega) (by rw [go4 _ (by omega)]; exact w5) (by rw [show 65536 + number_0 - 1 + 1 = 65536 + number_0 by omega]) (by omega) (fun _ => by omega) (by omega) (by omega) (fun i hi => go4 i (by omega))
      exact wp_some ⟨hσ_23, frσ_23, nfσ_23, (by (try dsimp only) <;> first | assumption | omega | ((try simp (disch := omega) only [w32_of, w64_of, w8_of]) <;> first | assumption | omega | (split <;> omega) | (refine And.intro ?_ ?_ <;> split <;> omega)) | omega), (by (try dsimp only) <;> first | assumption | omega | ((try simp (disch := omega) only [w32_of, w64_of, w8_of]) <;> first | assumption | omega | (split <;> omega) | (refine And.intro ?_ ?_ <;> split <;> omega)) | omega), (by (try dsimp only) <;> (first | exact fun _ => UN_EN (by omega) en1 | exact fun q => UN_EN (by omega) (en2 q) | exact fun q => UN_EN (by omega) (en3 q) | exact en4))⟩
    · try simp (disch := omega) only [w32_of, w64_of, w8_of, decide_eq_true_eq, decide_eq_false_iff_not, Bool.not_eq_true] at c32
      refine wp_if (fun c37 => ?_) (fun c37 => ?_)
      · try simp (disch := omega) only [w32_of, w64_of, w8_of, decide_eq_true_eq, decide_eq_false_iff_not, Bool.not_eq_true] at c37
        refine wp_bd (v_rings (σ := σ) (number_0 := number_0) hσ (by (try dsimp only) <;> first | assumption | omega | ((try simp (disch := omega) only [w32_of, w64_of, w8_of]) <;> first | assumption | omega | (split <;> omega) | (refine And.intro ?_ ?_ <;> split <;> omega)) | omega) (by (try dsimp only) <;> first | assumption | omega | ((try simp (disch := omega) only [w32_of, w64_of, w8_of]) <;> first | assumption | omega | (split <;> omega) | (refine And.intro ?_ ?_ <;> split <;> omega)) | omega) (by (try dsimp only) <;> first | assumption | omega | ((try simp (disch := omega) only [w32_of, w64_of, w8_of]) <;> first | assumption | omega | (split <;> omega) | (refine And.intro ?_ ?_ <;> split <;> omega)) | omega) (by (try dsimp only) <;> first | assumption | omega | ((try simp (disch := omega) only [w32_of, w64_of, w8_of]) <;> first | assumption | omega | (split <;> omega) | (refine And.intro ?_ ?_ <;> split <;> omega)) | omega) (by (try dsimp only) <;> first | assumption | omega | ((try simp (disch := omega) only [w32_of, w64_of, w8_of]) <;> first | assumption | omega | (split <;> omega) | (refine And.intro ?_ ?_ <;> split <;> omega)) | omega)) ?_
        rintro ⟨x_28, σ_27⟩ - y38
        try dsimp only at y38 ⊢
        obtain ⟨hσ_27, flσ_27, ngσ_27, gg1, gg2, gg3⟩ := y38
        have frσ_27 : FR [kR_at, kR_faultKind, kR_faultPlace, kR_numberFrom, kR_numberTo, kR_numberWhole, kR_plan, kR_planMany, kR_pointMany, kR_value, kR_xs, kR_ys] σ σ_27 := FR_le flσ_27 (by decide)
        have nfσ_27 : NF σ σ_27 := NF_tr (NF_refl _) ngσ_27
        have c39 := ii_kR_at hσ_27 0
        try simp (disch := omega) only [w32_of, w64_of, w8_of] at gg1
        try simp (disch := omega) only [w32_of, w64_of, w8_of] at gg2
        try simp (disch := omega) only [w32_of, w64_of, w8_of] at gg3
        have bq27 := ii_kR_planMany hσ_27 32
        have en3 : (x_28 = true) → ENt σ σ_27 (65536 + number_0 - 1) kind_0 := fun q => by
          have g := gg3 q
          have k3 : kind_0 = 3 := by omega
          rw [k3]
          refine EN_rings ⟨by omega, by omega⟩ (by rw [g.2.2.2.2 _ (by omega)]; omega) (by omega) ?_
          rw [show 65536 + number_0 - 1 + 1 = 65536 + number_0 by omega]; exact g
        exact wp_some ⟨hσ_27, frσ_27, nfσ_27, (by (try dsimp only) <;> first | assumption | omega | ((try simp (disch := omega) only [w32_of, w64_of, w8_of]) <;> first | assumption | omega | (split <;> omega) | (refine And.intro ?_ ?_ <;> split <;> omega)) | omega), (by (try dsimp only) <;> first | assumption | omega | ((try simp (disch := omega) only [w32_of, w64_of, w8_of]) <;> first | assumption | omega | (split <;> omega) | (refine And.intro ?_ ?_ <;> split <;> omega)) | omega), (by (try dsimp only) <;> (first | exact fun _ => UN_EN (by omega) en1 | exact fun q => UN_EN (by omega) (en2 q) | exact fun q => UN_EN (by omega) (en3 q) | exact en4))⟩
      · try simp (disch := omega) only [w32_of, w64_of, w8_of, decide_eq_true_eq, decide_eq_false_iff_not, Bool.not_eq_true] at c37
        refine wp_bd (v_parts0 (σ := σ) (kind_0 := kind_0) (number_0 := number_0) hσ (by (try dsimp only) <;> first | assumption | omega | ((try simp (disch := omega) only [w32_of, w64_of, w8_of]) <;> first | assumption | omega | (split <;> omega) | (refine And.intro ?_ ?_ <;> split <;> omega)) | omega) (by (try dsimp only) <;> first | assumption | omega | ((try simp (disch := omega) only [w32_of, w64_of, w8_of]) <;> first | assumption | omega | (split <;> omega) | (refine And.intro ?_ ?_ <;> split <;> omega)) | omega) (by (try dsimp only) <;> first | assumption | omega | ((try simp (disch := omega) only [w32_of, w64_of, w8_of]) <;> first | assumption | omega | (split <;> omega) | (refine And.intro ?_ ?_ <;> split <;> omega)) | omega) (by (try dsimp only) <;> first | assumption | omega | ((try simp (disch := omega) only [w32_of, w64_of, w8_of]) <;> first | assumption | omega | (split <;> omega) | (refine And.intro ?_ ?_ <;> split <;> omega)) | omega) (by (try dsimp only) <;> first | assumption | omega | ((try simp (disch := omega) only [w32_of, w64_of, w8_of]) <;> first | assumption | omega | (split <;> omega) | (refine And.intro ?_ ?_ <;> split <;> omega)) | omega) (by (try dsimp only) <;> first | assumption | omega | ((try simp (disch := omega) only [w32_of, w64_of, w8_of]) <;> first | assumption | omega | (split <;> omega) | (refine And.intro ?_ ?_ <;> split <;> omega)) | omega)) ?_
        rintro ⟨x_31, σ_30⟩ - y40
        try dsimp only at y40 ⊢
        obtain ⟨hσ_30, flσ_30, ngσ_30, gq1, gq2, gq3⟩ := y40
        have frσ_30 : FR [kR_at, kR_faultKind, kR_faultPlace, kR_numberFrom, kR_numberTo, kR_numberWhole, kR_plan, kR_planMany, kR_pointMany, kR_value, kR_xs, kR_ys] σ σ_30 := FR_le flσ_30 (by decide)
        have nfσ_30 : NF σ σ_30 := NF_tr (NF_refl _) ngσ_30
        have c41 := ii_kR_at hσ_30 0
        try simp (disch := omega) only [w32_of, w64_of, w8_of] at gq1
        try simp (disch := omega) only [w32_of, w64_of, w8_of] at gq2
        try simp (disch := omega) only [w32_of, w64_of, w8_of] at gq3
        have bq30 := ii_kR_planMany hσ_30 32
        have en4 : (x_31 = true) → UN σ σ_30 (65536 + number_0 - 1) := fun q => by
          have g := gq3 q
          refine UN_multi (k := kind_0) ⟨by omega, by omega⟩ (by omega) (by rw [g.2.2.2 _ (by omega)]; exact w5) ?_
          rw [show 65536 + number_0 - 1 + 1 = 65536 + number_0 by omega]; exact g
        exact wp_some ⟨hσ_30, frσ_30, nfσ_30, (by (try dsimp only) <;> first | assumption | omega | ((try simp (disch := omega) only [w32_of, w64_of, w8_of]) <;> first | assumption | omega | (split <;> omega) | (refine And.intro ?_ ?_ <;> split <;> omega)) | omega), (by (try dsimp only) <;> first | assumption | omega | ((try simp (disch := omega) only [w32_of, w64_of, w8_of]) <;> first | assumption | omega | (split <;> omega) | (refine And.intro ?_ ?_ <;> split <;> omega)) | omega), (by (try dsimp only) <;> (first | exact fun _ => UN_EN (by omega) en1 | exact fun q => UN_EN (by omega) (en2 q) | exact fun q => UN_EN (by omega) (en3 q) | exact en4))⟩
theorem v_clear {σ : SG} {slot_0 : Int} (hσ : II σ) (qslot_0 : 0 ≤ slot_0 ∧ slot_0 ≤ 32) : wp_ (fR_clear σ slot_0) (fun zz_ => II zz_ ∧ FR [kR_planMany, kR_pointMany] σ zz_ ∧ (zz_ kR_planMany slot_0 = 0) ∧ (zz_ kR_pointMany slot_0 = 0) ∧ (∀ s, s ≠ slot_0 → zz_ kR_planMany s = σ kR_planMany s ∧ zz_ kR_pointMany s = σ kR_pointMany s)) := by
  unfold fR_clear
  have c1 := w32_rng slot_0
  refine wp_waI hσ b_kR_planMany (by (try dsimp only) <;> first | assumption | omega | ((try simp (disch := omega) only [w32_of, w64_of, w8_of]) <;> first | assumption | omega | (split <;> omega) | (refine And.intro ?_ ?_ <;> split <;> omega)) | omega) (by (try dsimp only) <;> first | assumption | omega | ((try simp (disch := omega) only [w32_of, w64_of, w8_of]) <;> first | assumption | omega | (split <;> omega) | (refine And.intro ?_ ?_ <;> split <;> omega)) | omega) (by (try dsimp only) <;> first | assumption | omega | ((try simp (disch := omega) only [w32_of, w64_of, w8_of]) <;> first | assumption | omega | (split <;> omega) | (refine And.intro ?_ ?_ <;> split <;> omega)) | omega) (fun σ_1 hσ_1 eσ_1 => ?_)
  try simp (disch := omega) only [w32_of, w64_of, w8_of] at eσ_1
  have flσ_1 := FR_sg eσ_1
  have frσ_1 : FR [kR_planMany, kR_pointMany] σ σ_1 := FR_le flσ_1 (by decide)
  refine wp_waI hσ_1 b_kR_pointMany (by (try dsimp only) <;> first | assumption | omega | ((try simp (disch := omega) only [w32_of, w64_of, w8_of]) <;> first | assumption | omega | (split <;> omega) | (refine And.intro ?_ ?_ <;> split <;> omega)) | omega) (by (try dsimp only) <;> first | assumption | omega | ((try simp (disch := omega) only [w32_of, w64_of, w8_of]) <;> first | assumption | omega | (split <;> omega) | (refine And.intro ?_ ?_ <;> split <;> omega)) | omega) (by (try dsimp only) <;> first | assumption | omega | ((try simp (disch := omega) only [w32_of, w64_of, w8_of]) <;> first | assumption | omega | (split <;> omega) | (refine And.intro ?_ ?_ <;> split <;> omega)) | omega) (fun σ_3 hσ_3 eσ_3 => ?_)
  try simp (disch := omega) only [w32_of, w64_of, w8_of] at eσ_3
  have flσ_3 := FR_sg eσ_3
  have frσ_3 : FR [kR_planMany, kR_pointMany] σ σ_3 := FR_tr frσ_1 flσ_3 (by decide) (by decide)
  have c2 := ii_kR_planMany hσ_3 slot_0
  have c3 := FR_at flσ_3 (c := kR_planMany) (by decide) slot_0
  have c4 := ii_kR_planMany hσ_1 slot_0
  have c5 := sg_val eσ_1
  have c6 := ii_kR_pointMany hσ_3 slot_0
  have c7 := sg_val eσ_3
  exact wp_some ⟨hσ_3, frσ_3, (by (try dsimp only) <;> first | assumption | omega | ((try simp (disch := omega) only [w32_of, w64_of, w8_of]) <;> first | assumption | omega | (split <;> omega) | (refine And.intro ?_ ?_ <;> split <;> omega)) | omega), (by (try dsimp only) <;> (simp (disch := first | decide | omega) only [eσ_3, sg_at, sg_nc, sg_ni])), (by (try dsimp only) <;> (intro s hs; simp (disch := first | decide | omega) only [eσ_3, eσ_1, sg_at, sg_nc, sg_ni]; exact ⟨trivial, trivial⟩))⟩
theorem v_move {σ : SG} {from_0 : Int} {to_0 : Int} (hσ : II σ) (qfrom_0 : 0 ≤ from_0 ∧ from_0 ≤ 32) (qto_0 : 0 ≤ to_0 ∧ to_0 ≤ 31) (w0 : from_0 ≠ to_0) : wp_ (fR_move σ from_0 to_0) (fun zz_ => II zz_ ∧ FR [kR_plan, kR_planMany, kR_pointMany, kR_xs, kR_ys] σ zz_ ∧ (MVd σ zz_ from_0 to_0)) := by
  unfold fR_move
  refine wp_bd (P := fun rr_ => (0 ≤ rr_.1 ∧ rr_.1 ≤ 2048) ∧ II rr_.2 ∧ FR [kR_plan, kR_planMany, kR_pointMany, kR_xs, kR_ys] σ rr_.2 ∧ (∀ k, 0 ≤ k → k < σ kR_planMany from_0 → rr_.2 kR_plan (2048 * to_0 + k) = σ kR_plan (2048 * from_0 + k)) ∧ (∀ i, (i < 2048 * to_0 ∨ 2048 * to_0 + 2048 ≤ i) → rr_.2 kR_plan i = σ kR_plan i) ∧ (FR [kR_plan] σ rr_.2)) ?_ ?_
  · have c1 := ii_kR_planMany hσ from_0
    refine wp_whl (fun ss_ => (0 ≤ ss_.1 ∧ ss_.1 ≤ 2048) ∧ II ss_.2 ∧ FR [kR_plan, kR_planMany, kR_pointMany, kR_xs, kR_ys] σ ss_.2 ∧ (ss_.1 ≤ σ kR_planMany from_0) ∧ (∀ k, 0 ≤ k → k < ss_.1 → ss_.2 kR_plan (2048 * to_0 + k) = σ kR_plan (2048 * from_0 + k)) ∧ (∀ i, (i < 2048 * to_0 ∨ 2048 * to_0 + 2048 ≤ i) → ss_.2 kR_plan i = σ kR_plan i) ∧ (FR [kR_plan] σ ss_.2)) (fun ss_ => (2049 - ss_.1).toNat) ⟨(by (try dsimp only) <;> first | assumption | omega | ((try simp (disch := omega) only [w32_of, w64_of, w8_of]) <;> first | assumption | omega | (split <;> omega) | (refine And.intro ?_ ?_ <;> split <;> omega)) | omega), hσ, (FR_refl _ _), (by (try dsimp only) <;> first | assumption | omega | ((try simp (disch := omega) only [w32_of, w64_of, w8_of]) <;> first | assumption | omega | (split <;> omega) | (refine And.intro ?_ ?_ <;> split <;> omega)) | omega), (by (try dsimp only) <;> (first | exact ga | (intro k a b; exact absurd b (by omega)) | (intro k a b; by_cases q : k = k_1 <;> first | (rw [q, eσ_15, sg_at, e_x_13]; exact gb _ (by omega)) | (rw [eσ_15, sg_ni (by omega)]; exact ga k a (by omega))))), (by (try dsimp only) <;> (first | exact gb | (intro i hi; rfl) | (intro i hi; rw [eσ_15, sg_ni (by omega)]; exact gb i hi))), (by (try dsimp only) <;> (first | exact FR_refl _ _ | exact gf | exact FR_tr gf flσ_15 (by decide) (by decide)))⟩ ?_
    rintro ⟨k_1, σ_2⟩ y4
    try dsimp only at y4 ⊢
    obtain ⟨g2, hσ_2, frσ_2, g3, ga, gb, gf⟩ := y4
    have pm2 := FR_at gf (c := kR_planMany) (by decide) from_0
    have c5 := w32_rng from_0
    refine wp_rdI (by (try dsimp only) <;> first | assumption | omega | ((try simp (disch := omega) only [w32_of, w64_of, w8_of]) <;> first | assumption | omega | (split <;> omega) | (refine And.intro ?_ ?_ <;> split <;> omega)) | omega) (by (try dsimp only) <;> first | assumption | omega | ((try simp (disch := omega) only [w32_of, w64_of, w8_of]) <;> first | assumption | omega | (split <;> omega) | (refine And.intro ?_ ?_ <;> split <;> omega)) | omega) (fun x_10 e_x_10 => ?_)
    have b_x_10 : 0 ≤ x_10 ∧ x_10 ≤ 2048 := by rw [e_x_10]; exact ii_kR_planMany hσ_2 _
    try simp (disch := omega) only [w32_of, w64_of, w8_of] at e_x_10
    have c6 := ii_kR_planMany hσ_2 from_0
    have c8 := w32_rng k_1
    have c9 := w32_rng x_10
    refine wp_if (fun c7 => ?_) (fun c7 => ?_)
    · try simp (disch := omega) only [w32_of, w64_of, w8_of, decide_eq_true_eq, decide_eq_false_iff_not, Bool.not_eq_true] at c7
      have c10 := w32_rng ((2048 * from_0) + k_1)
      refine wp_rdI (by (try dsimp only) <;> first | assumption | omega | ((try simp (disch := omega) only [w32_of, w64_of, w8_of]) <;> first | assumption | omega | (split <;> omega) | (refine And.intro ?_ ?_ <;> split <;> omega)) | omega) (by (try dsimp only) <;> first | assumption | omega | ((try simp (disch := omega) only [w32_of, w64_of, w8_of]) <;> first | assumption | omega | (split <;> omega) | (refine And.intro ?_ ?_ <;> split <;> omega)) | omega) (fun x_13 e_x_13 => ?_)
      try simp (disch := omega) only [w32_of, w64_of, w8_of] at e_x_13
      have c11 := w32_rng ((2048 * to_0) + k_1)
      refine wp_waN hσ_2 b_kR_plan (by (try dsimp only) <;> first | assumption | omega | ((try simp (disch := omega) only [w32_of, w64_of, w8_of]) <;> first | assumption | omega | (split <;> omega) | (refine And.intro ?_ ?_ <;> split <;> omega)) | omega) (by (try dsimp only) <;> first | assumption | omega | ((try simp (disch := omega) only [w32_of, w64_of, w8_of]) <;> first | assumption | omega | (split <;> omega) | (refine And.intro ?_ ?_ <;> split <;> omega)) | omega) (fun σ_15 hσ_15 eσ_15 => ?_)
      try simp (disch := omega) only [w32_of, w64_of, w8_of] at eσ_15
      have flσ_15 := FR_sg eσ_15
      have frσ_15 : FR [kR_plan, kR_planMany, kR_pointMany, kR_xs, kR_ys] σ σ_15 := FR_tr frσ_2 flσ_15 (by decide) (by decide)
      exact wp_some (x_inl ⟨⟨(by (try dsimp only) <;> first | assumption | omega | ((try simp (disch := omega) only [w32_of, w64_of, w8_of]) <;> first | assumption | omega | (split <;> omega) | (refine And.intro ?_ ?_ <;> split <;> omega)) | omega), hσ_15, frσ_15, (by (try dsimp only) <;> first | assumption | omega | ((try simp (disch := omega) only [w32_of, w64_of, w8_of]) <;> first | assumption | omega | (split <;> omega) | (refine And.intro ?_ ?_ <;> split <;> omega)) | omega), (by (try dsimp only) <;> (first | exact ga | (intro k a b; exact absurd b (by omega)) | (intro k a b; by_cases q : k = k_1 <;> first | (rw [q, eσ_15, sg_at, e_x_13]; exact gb _ (by omega)) | (rw [eσ_15, sg_ni (by omega)]; exact ga k a (by omega))))), (by (try dsimp only) <;> (first | exact gb | (intro i hi; rfl) | (intro i hi; rw [eσ_15, sg_ni (by omega)]; exact gb i hi))), (by (try dsimp only) <;> (first | exact FR_refl _ _ | exact gf | exact FR_tr gf flσ_15 (by decide) (by decide)))⟩, (by (try dsimp only) <;> first | assumption | omega | ((try simp (disch := omega) only [w32_of, w64_of, w8_of]) <;> first | assumption | omega | (split <;> omega) | (refine And.intro ?_ ?_ <;> split <;> omega)) | omega)⟩)
    · try simp (disch := omega) only [w32_of, w64_of, w8_of, decide_eq_true_eq, decide_eq_false_iff_not, Bool.not_eq_true] at c7
      exact wp_some (x_inr ⟨(by (try dsimp only) <;> first | assumption | omega | ((try simp (disch := omega) only [w32_of, w64_of, w8_of]) <;> first | assumption | omega | (split <;> omega) | (refine And.intro ?_ ?_ <;> split <;> omega)) | omega), hσ_2, frσ_2, (by (try dsimp only) <;> (exact fun k a b => ga k a (by omega))), (by (try dsimp only) <;> (exact gb)), (by (try dsimp only) <;> (exact gf))⟩)
  rintro ⟨k_19, σ_20⟩ _ y13
  try dsimp only at y13 ⊢
  obtain ⟨g12, hσ_20, frσ_20, ga, gb, gf⟩ := y13
  refine wp_bd (P := fun rr_ => (0 ≤ rr_.1 ∧ rr_.1 ≤ 2048) ∧ II rr_.2 ∧ FR [kR_plan, kR_planMany, kR_pointMany, kR_xs, kR_ys] σ rr_.2 ∧ (∀ k, 0 ≤ k → k < σ kR_pointMany from_0 → rr_.2 kR_xs (2048 * to_0 + k) = σ kR_xs (2048 * from_0 + k) ∧ rr_.2 kR_ys (2048 * to_0 + k) = σ kR_ys (2048 * from_0 + k)) ∧ (∀ i, (i < 2048 * to_0 ∨ 2048 * to_0 + 2048 ≤ i) → rr_.2 kR_xs i = σ kR_xs i ∧ rr_.2 kR_ys i = σ kR_ys i) ∧ (FR [kR_xs, kR_ys] σ_20 rr_.2)) ?_ ?_
  · have c14 := ii_kR_pointMany hσ from_0
    refine wp_whl (fun ss_ => (0 ≤ ss_.1 ∧ ss_.1 ≤ 2048) ∧ II ss_.2 ∧ FR [kR_plan, kR_planMany, kR_pointMany, kR_xs, kR_ys] σ ss_.2 ∧ (ss_.1 ≤ σ kR_pointMany from_0) ∧ (∀ k, 0 ≤ k → k < ss_.1 → ss_.2 kR_xs (2048 * to_0 + k) = σ kR_xs (2048 * from_0 + k) ∧ ss_.2 kR_ys (2048 * to_0 + k) = σ kR_ys (2048 * from_0 + k)) ∧ (∀ i, (i < 2048 * to_0 ∨ 2048 * to_0 + 2048 ≤ i) → ss_.2 kR_xs i = σ kR_xs i ∧ ss_.2 kR_ys i = σ kR_ys i) ∧ (FR [kR_xs, kR_ys] σ_20 ss_.2)) (fun ss_ => (2049 - ss_.1).toNat) ⟨(by (try dsimp only) <;> first | assumption | omega | ((try simp (disch := omega) only [w32_of, w64_of, w8_of]) <;> first | assumption | omega | (split <;> omega) | (refine And.intro ?_ ?_ <;> split <;> omega)) | omega), hσ_20, frσ_20, (by (try dsimp only) <;> first | assumption | omega | ((try simp (disch := omega) only [w32_of, w64_of, w8_of]) <;> first | assumption | omega | (split <;> omega) | (refine And.intro ?_ ?_ <;> split <;> omega)) | omega), (by (try dsimp only) <;> (first | exact ha | (intro k a b; exact absurd b (by omega)) | (intro k a b; by_cases q : k = k_21 <;> first | (rw [q, xx, yy, sg_at, sg_at]; exact ⟨e_x_33.trans (hb _ (by omega)).1, ey37.trans (hb _ (by omega)).2⟩) | (rw [xx, yy, sg_ni (by omega), sg_ni (by omega)]; exact ha k a (by omega))))), (by (try dsimp only) <;> (first | exact hb | (intro i hi; rw [FR_at gf (c := kR_xs) (by decide), FR_at gf (c := kR_ys) (by decide)]; exact ⟨rfl, rfl⟩) | (intro i hi; rw [xx, yy, sg_ni (by omega), sg_ni (by omega)]; exact hb i hi))), (by (try dsimp only) <;> (first | exact FR_refl _ _ | exact hf | exact FR_tr (FR_tr hf flσ_35 (by decide) (by decide) : FR [kR_xs, kR_ys] σ_20 σ_35) flσ_39 (by decide) (by decide)))⟩ ?_
    rintro ⟨k_21, σ_22⟩ y17
    try dsimp only at y17 ⊢
    obtain ⟨g15, hσ_22, frσ_22, g16, ha, hb, hf⟩ := y17
    have pm2 := (FR_at hf (c := kR_pointMany) (by decide) from_0).trans (FR_at gf (c := kR_pointMany) (by decide) from_0)
    have c18 := w32_rng from_0
    refine wp_rdI (by (try dsimp only) <;> first | assumption | omega | ((try simp (disch := omega) only [w32_of, w64_of, w8_of]) <;> first | assumption | omega | (split <;> omega) | (refine And.intro ?_ ?_ <;> split <;> omega)) | omega) (by (try dsimp only) <;> first | assumption | omega | ((try simp (disch := omega) only [w32_of, w64_of, w8_of]) <;> first | assumption | omega | (split <;> omega) | (refine And.intro ?_ ?_ <;> split <;> omega)) | omega) (fun x_30 e_x_30 => ?_)
    have b_x_30 : 0 ≤ x_30 ∧ x_30 ≤ 2048 := by rw [e_x_30]; exact ii_kR_pointMany hσ_22 _
    try simp (disch := omega) only [w32_of, w64_of, w8_of] at e_x_30
    have c19 := ii_kR_pointMany hσ_22 from_0
    have c21 := w32_rng k_21
    have c22 := w32_rng x_30
    refine wp_if (fun c20 => ?_) (fun c20 => ?_)
    · try simp (disch := omega) only [w32_of, w64_of, w8_of, decide_eq_true_eq, decide_eq_false_iff_not, Bool.not_eq_true] at c20
      have c23 := w32_rng ((2048 * from_0) + k_21)
      refine wp_rdI (by (try dsimp only) <;> first | assumption | omega | ((try simp (disch := omega) only [w32_of, w64_of, w8_of]) <;> first | assumption | omega | (split <;> omega) | (refine And.intro ?_ ?_ <;> split <;> omega)) | omega) (by (try dsimp only) <;> first | assumption | omega | ((try simp (disch := omega) only [w32_of, w64_of, w8_of]) <;> first | assumption | omega | (split <;> omega) | (refine And.intro ?_ ?_ <;> split <;> omega)) | omega) (fun x_33 e_x_33 => ?_)
      have b_x_33 : (-1000000000) ≤ x_33 ∧ x_33 ≤ 1000000000 := by rw [e_x_33]; exact ii_kR_xs hσ_22 _
      try simp (disch := omega) only [w32_of, w64_of, w8_of] at e_x_33
      have c24 := ii_kR_xs hσ_22 ((2048 * from_0) + k_21)
      have c25 := w32_rng ((2048 * to_0) + k_21)
      refine wp_waI hσ_22 b_kR_xs (by (try dsimp only) <;> first | assumption | omega | ((try simp (disch := omega) only [w32_of, w64_of, w8_of]) <;> first | assumption | omega | (split <;> omega) | (refine And.intro ?_ ?_ <;> split <;> omega)) | omega) (by (try dsimp only) <;> first | assumption | omega | ((try simp (disch := omega) only [w32_of, w64_of, w8_of]) <;> first | assumption | omega | (split <;> omega) | (refine And.intro ?_ ?_ <;> split <;> omega)) | omega) (by (try dsimp only) <;> first | assumption | omega | ((try simp (disch := omega) only [w32_of, w64_of, w8_of]) <;> first | assumption | omega | (split <;> omega) | (refine And.intro ?_ ?_ <;> split <;> omega)) | omega) (fun σ_35 hσ_35 eσ_35 => ?_)
      try simp (disch := omega) only [w32_of, w64_of, w8_of] at eσ_35
      have flσ_35 := FR_sg eσ_35
      have frσ_35 : FR [kR_plan, kR_planMany, kR_pointMany, kR_xs, kR_ys] σ σ_35 := FR_tr frσ_22 flσ_35 (by decide) (by decide)
      refine wp_rdI (by (try dsimp only) <;> first | assumption | omega | ((try simp (disch := omega) only [w32_of, w64_of, w8_of]) <;> first | assumption | omega | (split <;> omega) | (refine And.intro ?_ ?_ <;> split <;> omega)) | omega) (by (try dsimp only) <;> first | assumption | omega | ((try simp (disch := omega) only [w32_of, w64_of, w8_of]) <;> first | assumption | omega | (split <;> omega) | (refine And.intro ?_ ?_ <;> split <;> omega)) | omega) (fun x_37 e_x_37 => ?_)
      have b_x_37 : (-1000000000) ≤ x_37 ∧ x_37 ≤ 1000000000 := by rw [e_x_37]; exact ii_kR_ys hσ_35 _
      try simp (disch := omega) only [w32_of, w64_of, w8_of] at e_x_37
      have c26 := ii_kR_ys hσ_35 ((2048 * from_0) + k_21)
      have c27 := FR_at flσ_35 (c := kR_ys) (by decide) ((2048 * from_0) + k_21)
      have c28 := ii_kR_ys hσ_22 ((2048 * from_0) + k_21)
      refine wp_waI hσ_35 b_kR_ys (by (try dsimp only) <;> first | assumption | omega | ((try simp (disch := omega) only [w32_of, w64_of, w8_of]) <;> first | assumption | omega | (split <;> omega) | (refine And.intro ?_ ?_ <;> split <;> omega)) | omega) (by (try dsimp only) <;> first | assumption | omega | ((try simp (disch := omega) only [w32_of, w64_of, w8_of]) <;> first | assumption | omega | (split <;> omega) | (refine And.intro ?_ ?_ <;> split <;> omega)) | omega) (by (try dsimp only) <;> first | assumption | omega | ((try simp (disch := omega) only [w32_of, w64_of, w8_of]) <;> first | assumption | omega | (split <;> omega) | (refine And.intro ?_ ?_ <;> split <;> omega)) | omega) (fun σ_39 hσ_39 eσ_39 => ?_)
      try simp (disch := omega) only [w32_of, w64_of, w8_of] at eσ_39
      have flσ_39 := FR_sg eσ_39
      have frσ_39 : FR [kR_plan, kR_planMany, kR_pointMany, kR_xs, kR_ys] σ σ_39 := FR_tr frσ_35 flσ_39 (by decide) (by decide)
      have xx : ∀ i, σ_39 kR_xs i = sg σ_22 kR_xs (2048 * to_0 + k_21) x_33 kR_xs i := fun i => by rw [eσ_39, sg_nc (by decide), eσ_35]
      have yy : ∀ i, σ_39 kR_ys i = sg σ_22 kR_ys (2048 * to_0 + k_21) x_37 kR_ys i := fun i => by
        rw [eσ_39]
        by_cases q : i = 2048 * to_0 + k_21
        · rw [q, sg_at, sg_at]
        · rw [sg_ni q, sg_ni q, eσ_35, sg_nc (by decide)]
      have ey37 : x_37 = σ_22 kR_ys (2048 * from_0 + k_21) := by rw [e_x_37, eσ_35, sg_nc (by decide)]
      exact wp_some (x_inl ⟨⟨(by (try dsimp only) <;> first | assumption | omega | ((try simp (disch := omega) only [w32_of, w64_of, w8_of]) <;> first | assumption | omega | (split <;> omega) | (refine And.intro ?_ ?_ <;> split <;> omega)) | omega), hσ_39, frσ_39, (by (try dsimp only) <;> first | assumption | omega | ((try simp (disch := omega) only [w32_of, w64_of, w8_of]) <;> first | assumption | omega | (split <;> omega) | (refine And.intro ?_ ?_ <;> split <;> omega)) | omega), (by (try dsimp only) <;> (first | exact ha | (intro k a b; exact absurd b (by omega)) | (intro k a b; by_cases q : k = k_21 <;> first | (rw [q, xx, yy, sg_at, sg_at]; exact ⟨e_x_33.trans (hb _ (by omega)).1, ey37.trans (hb _ (by omega)).2⟩) | (rw [xx, yy, sg_ni (by omega), sg_ni (by omega)]; exact ha k a (by omega))))), (by (try dsimp only) <;> (first | exact hb | (intro i hi; rw [FR_at gf (c := kR_xs) (by decide), FR_at gf (c := kR_ys) (by decide)]; exact ⟨rfl, rfl⟩) | (intro i hi; rw [xx, yy, sg_ni (by omega), sg_ni (by omega)]; exact hb i hi))), (by (try dsimp only) <;> (first | exact FR_refl _ _ | exact hf | exact FR_tr (FR_tr hf flσ_35 (by decide) (by decide) : FR [kR_xs, kR_ys] σ_20 σ_35) flσ_39 (by decide) (by decide)))⟩, (by (try dsimp only) <;> first | assumption | omega | ((try simp (disch := omega) only [w32_of, w64_of, w8_of]) <;> first | assumption | omega | (split <;> omega) | (refine And.intro ?_ ?_ <;> split <;> omega)) | omega)⟩)
    · try simp (disch := omega) only [w32_of, w64_of, w8_of, decide_eq_true_eq, decide_eq_false_iff_not, Bool.not_eq_true] at c20
      exact wp_some (x_inr ⟨(by (try dsimp only) <;> first | assumption | omega | ((try simp (disch := omega) only [w32_of, w64_of, w8_of]) <;> first | assumption | omega | (split <;> omega) | (refine And.intro ?_ ?_ <;> split <;> omega)) | omega), hσ_22, frσ_22, (by (try dsimp only) <;> (exact fun k a b => ha k a (by omega))), (by (try dsimp only) <;> (exact hb)), (by (try dsimp only) <;> (exact hf))⟩)
  rintro ⟨k_43, σ_44⟩ _ y30
  try dsimp only at y30 ⊢
  obtain ⟨g29, hσ_44, frσ_44, ha, hb, hf⟩ := y30
  have c31 := w32_rng from_0
  refine wp_rdI (by (try dsimp only) <;> first | assumption | omega | ((try simp (disch := omega) only [w32_of, w64_of, w8_of]) <;> first | assumption | omega | (split <;> omega) | (refine And.intro ?_ ?_ <;> split <;> omega)) | omega) (by (try dsimp only) <;> first | assumption | omega | ((try simp (disch := omega) only [w32_of, w64_of, w8_of]) <;> first | assumption | omega | (split <;> omega) | (refine And.intro ?_ ?_ <;> split <;> omega)) | omega) (fun x_45 e_x_45 => ?_)
  have b_x_45 : 0 ≤ x_45 ∧ x_45 ≤ 2048 := by rw [e_x_45]; exact ii_kR_planMany hσ_44 _
  try simp (disch := omega) only [w32_of, w64_of, w8_of] at e_x_45
  have c32 := ii_kR_planMany hσ_44 from_0
  have c33 := w32_rng to_0
  refine wp_waI hσ_44 b_kR_planMany (by (try dsimp only) <;> first | assumption | omega | ((try simp (disch := omega) only [w32_of, w64_of, w8_of]) <;> first | assumption | omega | (split <;> omega) | (refine And.intro ?_ ?_ <;> split <;> omega)) | omega) (by (try dsimp only) <;> first | assumption | omega | ((try simp (disch := omega) only [w32_of, w64_of, w8_of]) <;> first | assumption | omega | (split <;> omega) | (refine And.intro ?_ ?_ <;> split <;> omega)) | omega) (by (try dsimp only) <;> first | assumption | omega | ((try simp (disch := omega) only [w32_of, w64_of, w8_of]) <;> first | assumption | omega | (split <;> omega) | (refine And.intro ?_ ?_ <;> split <;> omega)) | omega) (fun σ_47 hσ_47 eσ_47 => ?_)
  try simp (disch := omega) only [w32_of, w64_of, w8_of] at eσ_47
  have flσ_47 := FR_sg eσ_47
  have frσ_47 : FR [kR_plan, kR_planMany, kR_pointMany, kR_xs, kR_ys] σ σ_47 := FR_tr frσ_44 flσ_47 (by decide) (by decide)
  refine wp_rdI (by (try dsimp only) <;> first | assumption | omega | ((try simp (disch := omega) only [w32_of, w64_of, w8_of]) <;> first | assumption | omega | (split <;> omega) | (refine And.intro ?_ ?_ <;> split <;> omega)) | omega) (by (try dsimp only) <;> first | assumption | omega | ((try simp (disch := omega) only [w32_of, w64_of, w8_of]) <;> first | assumption | omega | (split <;> omega) | (refine And.intro ?_ ?_ <;> split <;> omega)) | omega) (fun x_49 e_x_49 => ?_)
  have b_x_49 : 0 ≤ x_49 ∧ x_49 ≤ 2048 := by rw [e_x_49]; exact ii_kR_pointMany hσ_47 _
  try simp (disch := omega) only [w32_of, w64_of, w8_of] at e_x_49
  have c34 := ii_kR_pointMany hσ_47 from_0
  have c35 := FR_at flσ_47 (c := kR_pointMany) (by decide) from_0
  have c36 := ii_kR_pointMany hσ_44 from_0
  refine wp_waI hσ_47 b_kR_pointMany (by (try dsimp only) <;> first | assumption | omega | ((try simp (disch := omega) only [w32_of, w64_of, w8_of]) <;> first | assumption | omega | (split <;> omega) | (refine And.intro ?_ ?_ <;> split <;> omega)) | omega) (by (try dsimp only) <;> first | assumption | omega | ((try simp (disch := omega) only [w32_of, w64_of, w8_of]) <;> first | assumption | omega | (split <;> omega) | (refine And.intro ?_ ?_ <;> split <;> omega)) | omega) (by (try dsimp only) <;> first | assumption | omega | ((try simp (disch := omega) only [w32_of, w64_of, w8_of]) <;> first | assumption | omega | (split <;> omega) | (refine And.intro ?_ ?_ <;> split <;> omega)) | omega) (fun σ_51 hσ_51 eσ_51 => ?_)
  try simp (disch := omega) only [w32_of, w64_of, w8_of] at eσ_51
  have flσ_51 := FR_sg eσ_51
  have frσ_51 : FR [kR_plan, kR_planMany, kR_pointMany, kR_xs, kR_ys] σ σ_51 := FR_tr frσ_47 flσ_51 (by decide) (by decide)
  have m1 : ∀ s, σ_51 kR_planMany s = sg σ_44 kR_planMany to_0 x_45 kR_planMany s := fun s => by rw [eσ_51, sg_nc (by decide), eσ_47]
  have m2 : ∀ s, σ_51 kR_pointMany s = sg σ_44 kR_pointMany to_0 x_49 kR_pointMany s := fun s => by
    rw [eσ_51]
    by_cases q : s = to_0
    · rw [q, sg_at, sg_at]
    · rw [sg_ni q, sg_ni q, eσ_47, sg_nc (by decide)]
  have m3 : ∀ s, σ_44 kR_planMany s = σ kR_planMany s := fun s => (FR_at hf (by decide) s).trans (FR_at gf (by decide) s)
  have m4 : ∀ s, σ_44 kR_pointMany s = σ kR_pointMany s := fun s => (FR_at hf (by decide) s).trans (FR_at gf (by decide) s)
  have m5 : x_49 = σ kR_pointMany from_0 := by rw [e_x_49, eσ_47, sg_nc (by decide)]; exact m4 _
  have m6 : x_45 = σ kR_planMany from_0 := e_x_45.trans (m3 _)
  have q1 : ∀ i, σ_51 kR_plan i = σ_20 kR_plan i := fun i => by rw [eσ_51, sg_nc (by decide), eσ_47, sg_nc (by decide)]; exact FR_at hf (by decide) i
  have q2 : ∀ i, σ_51 kR_xs i = σ_44 kR_xs i := fun i => by rw [eσ_51, sg_nc (by decide), eσ_47, sg_nc (by decide)]
  have q3 : ∀ i, σ_51 kR_ys i = σ_44 kR_ys i := fun i => by rw [eσ_51, sg_nc (by decide), eσ_47, sg_nc (by decide)]
  have mv : MVd σ σ_51 from_0 to_0 := by
    refine ⟨fun k a b => (q1 _).trans (ga k a b), fun i hi => (q1 _).trans (gb i hi), fun k a b => ⟨(q2 _).trans (ha k a b).1, (q3 _).trans (ha k a b).2⟩, fun i hi => ⟨(q2 _).trans (hb i hi).1, (q3 _).trans (hb i hi).2⟩, ⟨by rw [m1, sg_at]; exact m6, by rw [m2, sg_at]; exact m5⟩, fun s hs => ⟨by rw [m1, sg_ni hs]; exact m3 s, by rw [m2, sg_ni hs]; exact m4 s⟩⟩
  exact wp_some ⟨hσ_51, frσ_51, (by (try dsimp only) <;> (exact mv))⟩
theorem v_beginShape {σ : SG} (hσ : II σ) (w0 : σ kR_at 0 ≤ σ kR_size 0) (w1 : WSs σ true) : wp_ (fR_beginShape σ) (fun zz_ => II zz_.2 ∧ FR [kR_at, kR_faultKind, kR_faultPlace, kR_numberFrom, kR_numberTo, kR_numberWhole, kR_open, kR_openAt, kR_opened, kR_plan, kR_planMany, kR_pointMany, kR_value, kR_xs, kR_ys] σ zz_.2 ∧ NF σ zz_.2 ∧ (σ kR_at 0 ≤ zz_.2 kR_at 0) ∧ (zz_.2 kR_at 0 ≤ σ kR_size 0) ∧ ((zz_.1 = true) → σ kR_at 0 < zz_.2 kR_at 0) ∧ ((zz_.1 = true) → nz (zz_.2 kR_opened 0) = false → WSs zz_.2 false) ∧ ((zz_.1 = true) → nz (zz_.2 kR_opened 0) = true → WSs zz_.2 true)) := by
  unfold fR_beginShape
  have c1 := ii_kR_at hσ 0
  have c2 := ii_kR_size hσ 0
  have ho := ii_kR_open hσ 0
  obtain ⟨wb1, wb2⟩ := WS_b w1 ho.1
  have hpm := ii_kR_planMany hσ 32
  have c3 := bz_bd false
  try simp (disch := omega) only [w32_of, w64_of, w8_of] at c3
  refine wp_wfI hσ b_kR_opened (by (try dsimp only) <;> first | assumption | omega | ((try simp (disch := omega) only [w32_of, w64_of, w8_of]) <;> first | assumption | omega | (split <;> omega) | (refine And.intro ?_ ?_ <;> split <;> omega)) | omega) (fun σ_1 hσ_1 eσ_1 => ?_)
  try simp (disch := omega) only [w32_of, w64_of, w8_of] at eσ_1
  have flσ_1 := FR_sg eσ_1
  have frσ_1 : FR [kR_at, kR_faultKind, kR_faultPlace, kR_numberFrom, kR_numberTo, kR_numberWhole, kR_open, kR_openAt, kR_opened, kR_plan, kR_planMany, kR_pointMany, kR_value, kR_xs, kR_ys] σ σ_1 := FR_le flσ_1 (by decide)
  have nfσ_1 : NF σ σ_1 := NF_fr (NF_refl _) flσ_1 (by decide)
  have c4 := ii_kR_at hσ_1 0
  have c5 := FR_at flσ_1 (c := kR_at) (by decide) 0
  have c6 := ii_kR_size hσ_1 0
  have c7 := FR_at flσ_1 (c := kR_size) (by decide) 0
  refine wp_bd (v_skip (σ := σ_1) hσ_1 (by (try dsimp only) <;> first | assumption | omega | ((try simp (disch := omega) only [w32_of, w64_of, w8_of]) <;> first | assumption | omega | (split <;> omega) | (refine And.intro ?_ ?_ <;> split <;> omega)) | omega)) ?_
  rintro σ_3 - ⟨hσ_3, flσ_3, g8, g9⟩
  have frσ_3 : FR [kR_at, kR_faultKind, kR_faultPlace, kR_numberFrom, kR_numberTo, kR_numberWhole, kR_open, kR_openAt, kR_opened, kR_plan, kR_planMany, kR_pointMany, kR_value, kR_xs, kR_ys] σ σ_3 := FR_tr frσ_1 flσ_3 (by decide) (by decide)
  have nfσ_3 : NF σ σ_3 := NF_fr nfσ_1 flσ_3 (by decide)
  have c10 := ii_kR_at hσ_3 0
  try simp (disch := omega) only [w32_of, w64_of, w8_of] at g8
  try simp (disch := omega) only [w32_of, w64_of, w8_of] at g9
  refine wp_bd (v_here (σ := σ_3) hσ_3) ?_
  rintro x_17 - ⟨gr, gv, gd⟩
  try simp (disch := omega) only [w32_of, w64_of, w8_of] at gr
  try simp (disch := omega) only [w32_of, w64_of, w8_of] at gv
  have c11 := ii_kR_size hσ_3 0
  have c12 := FR_at flσ_3 (c := kR_size) (by decide) 0
  try simp (disch := omega) only [w32_of, w64_of, w8_of] at gd
  have c14 := w32_rng x_17
  refine wp_if (fun c13 => ?_) (fun c13 => ?_)
  · try simp (disch := omega) only [w32_of, w64_of, w8_of, decide_eq_true_eq, decide_eq_false_iff_not, Bool.not_eq_true] at c13
    refine wp_bd (v_strange (σ := σ_3) (word_0 := true) hσ_3) ?_
    rintro ⟨x_21, σ_20⟩ - y16
    try dsimp only at y16 ⊢
    obtain ⟨hσ_20, flσ_20, g15⟩ := y16
    have frσ_20 : FR [kR_at, kR_faultKind, kR_faultPlace, kR_numberFrom, kR_numberTo, kR_numberWhole, kR_open, kR_openAt, kR_opened, kR_plan, kR_planMany, kR_pointMany, kR_value, kR_xs, kR_ys] σ σ_20 := FR_tr frσ_3 flσ_20 (by decide) (by decide)
    have nfσ_20 : NF σ σ_20 := NF_fr nfσ_3 flσ_20 (by decide)
    try simp (disch := omega) only [w32_of, w64_of, w8_of] at g15
    have c17 := ii_kR_at hσ_20 0
    have c18 := FR_at flσ_20 (c := kR_at) (by decide) 0
    have c19 := ii_kR_opened hσ_20 0
    have c20 := FR_at flσ_20 (c := kR_opened) (by decide) 0
    have c21 := ii_kR_opened hσ_3 0
    have c22 := FR_at flσ_3 (c := kR_opened) (by decide) 0
    have c23 := ii_kR_opened hσ_1 0
    have c24 := sg_val eσ_1
    exact wp_some ⟨hσ_20, frσ_20, nfσ_20, (by (try dsimp only) <;> first | assumption | omega | ((try simp (disch := omega) only [w32_of, w64_of, w8_of]) <;> first | assumption | omega | (split <;> omega) | (refine And.intro ?_ ?_ <;> split <;> omega)) | omega), (by (try dsimp only) <;> first | assumption | omega | ((try simp (disch := omega) only [w32_of, w64_of, w8_of]) <;> first | assumption | omega | (split <;> omega) | (refine And.intro ?_ ?_ <;> split <;> omega)) | omega), (fun q => absurd (q.symm.trans g15) (by decide)), (fun q => absurd (q.symm.trans g15) (by decide)), (fun q => absurd (q.symm.trans g15) (by decide))⟩
  · try simp (disch := omega) only [w32_of, w64_of, w8_of, decide_eq_true_eq, decide_eq_false_iff_not, Bool.not_eq_true] at c13
    refine wp_bd (v_here (σ := σ_3) hσ_3) ?_
    rintro x_23 - ⟨gr, gv, gd⟩
    try simp (disch := omega) only [w32_of, w64_of, w8_of] at gr
    try simp (disch := omega) only [w32_of, w64_of, w8_of] at gv
    try simp (disch := omega) only [w32_of, w64_of, w8_of] at gd
    refine wp_if (fun c25 => ?_) (fun c25 => ?_)
    · have hL := c25
      try simp (disch := omega) only [w32_of, w64_of, w8_of, decide_eq_true_eq, decide_eq_false_iff_not, Bool.not_eq_true, fR_isLetter] at c25
      refine wp_bd (v_word (σ := σ_3) hσ_3 (by (try dsimp only) <;> first | assumption | omega | ((try simp (disch := omega) only [w32_of, w64_of, w8_of]) <;> first | assumption | omega | (split <;> omega) | (refine And.intro ?_ ?_ <;> split <;> omega)) | omega)) ?_
      rintro ⟨x_27, σ_26⟩ - y26
      try dsimp only at y26 ⊢
      obtain ⟨hσ_26, flσ_26, gk0, gk1, gk2, gL⟩ := y26
      have frσ_26 : FR [kR_at, kR_faultKind, kR_faultPlace, kR_numberFrom, kR_numberTo, kR_numberWhole, kR_open, kR_openAt, kR_opened, kR_plan, kR_planMany, kR_pointMany, kR_value, kR_xs, kR_ys] σ σ_26 := FR_tr frσ_3 flσ_26 (by decide) (by decide)
      have nfσ_26 : NF σ σ_26 := NF_fr nfσ_3 flσ_26 (by decide)
      try simp (disch := omega) only [w32_of, w64_of, w8_of] at gk0
      have c27 := ii_kR_at hσ_26 0
      try simp (disch := omega) only [w32_of, w64_of, w8_of] at gk1
      try simp (disch := omega) only [w32_of, w64_of, w8_of] at gk2
      try simp (disch := omega) only [w32_of, w64_of, w8_of] at gL
      have gL2 : σ_3 kR_at 0 < σ_26 kR_at 0 := gL ⟨by rw [← gv]; exact hL, by rw [← gv]; omega⟩
      have c29 := w32_rng x_27
      refine wp_if (fun c28 => ?_) (fun c28 => ?_)
      · try simp (disch := omega) only [w32_of, w64_of, w8_of, decide_eq_true_eq, decide_eq_false_iff_not, Bool.not_eq_true] at c28
        refine wp_bd (v_wrong (σ := σ_26) (kind_0 := 2) (where_0 := (σ_3 kR_at 0)) hσ_26 (by (try dsimp only) <;> first | assumption | omega | ((try simp (disch := omega) only [w32_of, w64_of, w8_of]) <;> first | assumption | omega | (split <;> omega) | (refine And.intro ?_ ?_ <;> split <;> omega)) | omega) (by (try dsimp only) <;> first | assumption | omega | ((try simp (disch := omega) only [w32_of, w64_of, w8_of]) <;> first | assumption | omega | (split <;> omega) | (refine And.intro ?_ ?_ <;> split <;> omega)) | omega)) ?_
        rintro ⟨x_30, σ_29⟩ - y31
        try dsimp only at y31 ⊢
        obtain ⟨hσ_29, flσ_29, g30⟩ := y31
        have frσ_29 : FR [kR_at, kR_faultKind, kR_faultPlace, kR_numberFrom, kR_numberTo, kR_numberWhole, kR_open, kR_openAt, kR_opened, kR_plan, kR_planMany, kR_pointMany, kR_value, kR_xs, kR_ys] σ σ_29 := FR_tr frσ_26 flσ_29 (by decide) (by decide)
        have nfσ_29 : NF σ σ_29 := NF_fr nfσ_26 flσ_29 (by decide)
        try simp (disch := omega) only [w32_of, w64_of, w8_of] at g30
        have c32 := ii_kR_at hσ_29 0
        have c33 := FR_at flσ_29 (c := kR_at) (by decide) 0
        have c34 := ii_kR_opened hσ_29 0
        have c35 := FR_at flσ_29 (c := kR_opened) (by decide) 0
        have c36 := ii_kR_opened hσ_26 0
        have c37 := FR_at flσ_26 (c := kR_opened) (by decide) 0
        have c38 := ii_kR_opened hσ_3 0
        have c39 := FR_at flσ_3 (c := kR_opened) (by decide) 0
        have c40 := ii_kR_opened hσ_1 0
        have c41 := sg_val eσ_1
        exact wp_some ⟨hσ_29, frσ_29, nfσ_29, (by (try dsimp only) <;> first | assumption | omega | ((try simp (disch := omega) only [w32_of, w64_of, w8_of]) <;> first | assumption | omega | (split <;> omega) | (refine And.intro ?_ ?_ <;> split <;> omega)) | omega), (by (try dsimp only) <;> first | assumption | omega | ((try simp (disch := omega) only [w32_of, w64_of, w8_of]) <;> first | assumption | omega | (split <;> omega) | (refine And.intro ?_ ?_ <;> split <;> omega)) | omega), (fun q => absurd (q.symm.trans g30) (by decide)), (fun q => absurd (q.symm.trans g30) (by decide)), (fun q => absurd (q.symm.trans g30) (by decide))⟩
      · try simp (disch := omega) only [w32_of, w64_of, w8_of, decide_eq_true_eq, decide_eq_false_iff_not, Bool.not_eq_true] at c28
        have c43 := ii_kR_open hσ_26 0
        have c44 := FR_at flσ_26 (c := kR_open) (by decide) 0
        have c45 := ii_kR_open hσ_3 0
        have c46 := FR_at flσ_3 (c := kR_open) (by decide) 0
        have c47 := ii_kR_open hσ_1 0
        have c48 := FR_at flσ_1 (c := kR_open) (by decide) 0
        have c49 := ii_kR_open hσ 0
        have c50 := w32_rng (σ_26 kR_open 0)
        refine wp_if (fun c42 => ?_) (fun c42 => ?_)
        · try simp (disch := omega) only [w32_of, w64_of, w8_of, decide_eq_true_eq, decide_eq_false_iff_not, Bool.not_eq_true] at c42
          refine wp_bd (v_wrong (σ := σ_26) (kind_0 := 6) (where_0 := (σ_3 kR_at 0)) hσ_26 (by (try dsimp only) <;> first | assumption | omega | ((try simp (disch := omega) only [w32_of, w64_of, w8_of]) <;> first | assumption | omega | (split <;> omega) | (refine And.intro ?_ ?_ <;> split <;> omega)) | omega) (by (try dsimp only) <;> first | assumption | omega | ((try simp (disch := omega) only [w32_of, w64_of, w8_of]) <;> first | assumption | omega | (split <;> omega) | (refine And.intro ?_ ?_ <;> split <;> omega)) | omega)) ?_
          rintro ⟨x_33, σ_32⟩ - y52
          try dsimp only at y52 ⊢
          obtain ⟨hσ_32, flσ_32, g51⟩ := y52
          have frσ_32 : FR [kR_at, kR_faultKind, kR_faultPlace, kR_numberFrom, kR_numberTo, kR_numberWhole, kR_open, kR_openAt, kR_opened, kR_plan, kR_planMany, kR_pointMany, kR_value, kR_xs, kR_ys] σ σ_32 := FR_tr frσ_26 flσ_32 (by decide) (by decide)
          have nfσ_32 : NF σ σ_32 := NF_fr nfσ_26 flσ_32 (by decide)
          try simp (disch := omega) only [w32_of, w64_of, w8_of] at g51
          have c53 := ii_kR_at hσ_32 0
          have c54 := FR_at flσ_32 (c := kR_at) (by decide) 0
          have c55 := ii_kR_opened hσ_32 0
          have c56 := FR_at flσ_32 (c := kR_opened) (by decide) 0
          have c57 := ii_kR_opened hσ_26 0
          have c58 := FR_at flσ_26 (c := kR_opened) (by decide) 0
          have c59 := ii_kR_opened hσ_3 0
          have c60 := FR_at flσ_3 (c := kR_opened) (by decide) 0
          have c61 := ii_kR_opened hσ_1 0
          have c62 := sg_val eσ_1
          exact wp_some ⟨hσ_32, frσ_32, nfσ_32, (by (try dsimp only) <;> first | assumption | omega | ((try simp (disch := omega) only [w32_of, w64_of, w8_of]) <;> first | assumption | omega | (split <;> omega) | (refine And.intro ?_ ?_ <;> split <;> omega)) | omega), (by (try dsimp only) <;> first | assumption | omega | ((try simp (disch := omega) only [w32_of, w64_of, w8_of]) <;> first | assumption | omega | (split <;> omega) | (refine And.intro ?_ ?_ <;> split <;> omega)) | omega), (fun q => absurd (q.symm.trans g51) (by decide)), (fun q => absurd (q.symm.trans g51) (by decide)), (fun q => absurd (q.symm.trans g51) (by decide))⟩
        · try simp (disch := omega) only [w32_of, w64_of, w8_of, decide_eq_true_eq, decide_eq_false_iff_not, Bool.not_eq_true] at c42
          have c63 := ii_kR_size hσ_26 0
          have c64 := FR_at flσ_26 (c := kR_size) (by decide) 0
          refine wp_bd (v_pair (σ := σ_26) (kind_0 := x_27) hσ_26 (by (try dsimp only) <;> first | assumption | omega | ((try simp (disch := omega) only [w32_of, w64_of, w8_of]) <;> first | assumption | omega | (split <;> omega) | (refine And.intro ?_ ?_ <;> split <;> omega)) | omega)) ?_
          rintro ⟨x_36, σ_35⟩ - y65
          try dsimp only at y65 ⊢
          obtain ⟨hσ_35, flσ_35, ngσ_35, gp1, gp2, gp3, gp4, gp5, gp6⟩ := y65
          have frσ_35 : FR [kR_at, kR_faultKind, kR_faultPlace, kR_numberFrom, kR_numberTo, kR_numberWhole, kR_open, kR_openAt, kR_opened, kR_plan, kR_planMany, kR_pointMany, kR_value, kR_xs, kR_ys] σ σ_35 := FR_tr frσ_26 flσ_35 (by decide) (by decide)
          have nfσ_35 : NF σ σ_35 := NF_tr nfσ_26 ngσ_35
          have c66 := ii_kR_at hσ_35 0
          try simp (disch := omega) only [w32_of, w64_of, w8_of] at gp1
          try simp (disch := omega) only [w32_of, w64_of, w8_of] at gp2
          have c67 := ii_kR_planMany hσ_35 32
          have c68 := ii_kR_planMany hσ_26 32
          have c69 := FR_at flσ_26 (c := kR_planMany) (by decide) 32
          have c70 := ii_kR_planMany hσ_3 32
          have c71 := FR_at flσ_3 (c := kR_planMany) (by decide) 32
          have c72 := ii_kR_planMany hσ_1 32
          have c73 := FR_at flσ_1 (c := kR_planMany) (by decide) 32
          have c74 := ii_kR_planMany hσ 32
          try simp (disch := omega) only [w32_of, w64_of, w8_of] at gp3
          try simp (disch := omega) only [w32_of, w64_of, w8_of] at gp4
          try simp (disch := omega) only [w32_of, w64_of, w8_of] at gp5
          try simp (disch := omega) only [w32_of, w64_of, w8_of] at gp6
          refine wp_if (fun c75 => ?_) (fun c75 => ?_)
          · have k76 := gp3 c75
            try simp (disch := omega) only [w32_of, w64_of, w8_of] at k76
            have k77 := gp4 c75
            try simp (disch := omega) only [w32_of, w64_of, w8_of] at k77
            have k78 := gp5 c75
            try simp (disch := omega) only [w32_of, w64_of, w8_of] at k78
            try simp (disch := omega) only [w32_of, w64_of, w8_of, decide_eq_true_eq, decide_eq_false_iff_not, Bool.not_eq_true] at c75
            have hp3 := gp3 (by assumption)
            have hp4 := gp4 (by assumption)
            have hp5 := gp5 (by assumption)
            have m26 : σ_26 kR_planMany 32 = σ kR_planMany 32 := by rw [FR_at flσ_26 (c := kR_planMany) (by decide), FR_at flσ_3 (c := kR_planMany) (by decide), FR_at flσ_1 (c := kR_planMany) (by decide)]
            have p26 : ∀ i, σ_26 kR_plan i = σ kR_plan i := fun i => by rw [FR_at flσ_26 (c := kR_plan) (by decide), FR_at flσ_3 (c := kR_plan) (by decide), FR_at flσ_1 (c := kR_plan) (by decide)]
            have q26 : σ_35 kR_pointMany 32 = σ kR_pointMany 32 := by rw [FR_at flσ_35 (c := kR_pointMany) (by decide), FR_at flσ_26 (c := kR_pointMany) (by decide), FR_at flσ_3 (c := kR_pointMany) (by decide), FR_at flσ_1 (c := kR_pointMany) (by decide)]
            have o35 : σ_35 kR_open 0 = σ kR_open 0 := by rw [FR_at flσ_35 (c := kR_open) (by decide), FR_at flσ_26 (c := kR_open) (by decide), FR_at flσ_3 (c := kR_open) (by decide), FR_at flσ_1 (c := kR_open) (by decide)]
            have oa35 : ∀ j, σ_35 kR_openAt j = σ kR_openAt j := fun j => by rw [FR_at flσ_35 (c := kR_openAt) (by decide), FR_at flσ_26 (c := kR_openAt) (by decide), FR_at flσ_3 (c := kR_openAt) (by decide), FR_at flσ_1 (c := kR_openAt) (by decide)]
            have oe35 : σ_35 kR_opened 0 = 0 := by rw [FR_at flσ_35 (c := kR_opened) (by decide), FR_at flσ_26 (c := kR_opened) (by decide), FR_at flσ_3 (c := kR_opened) (by decide)]; exact sg_val eσ_1
            rw [m26] at hp3 hp4 hp5 gp6
            refine wp_rdI (by (try dsimp only) <;> first | assumption | omega | ((try simp (disch := omega) only [w32_of, w64_of, w8_of]) <;> first | assumption | omega | (split <;> omega) | (refine And.intro ?_ ?_ <;> split <;> omega)) | omega) (by (try dsimp only) <;> first | assumption | omega | ((try simp (disch := omega) only [w32_of, w64_of, w8_of]) <;> first | assumption | omega | (split <;> omega) | (refine And.intro ?_ ?_ <;> split <;> omega)) | omega) (fun x_38 e_x_38 => ?_)
            have b_x_38 : 0 ≤ x_38 ∧ x_38 ≤ 2048 := by rw [e_x_38]; exact ii_kR_planMany hσ_35 _
            try simp (disch := omega) only [w32_of, w64_of, w8_of] at e_x_38
            refine wp_bd (P := fun rr_ => II rr_ ∧ FR [kR_at, kR_faultKind, kR_faultPlace, kR_numberFrom, kR_numberTo, kR_numberWhole, kR_open, kR_openAt, kR_opened, kR_plan, kR_planMany, kR_pointMany, kR_value, kR_xs, kR_ys] σ rr_ ∧ NF σ rr_ ∧ (σ kR_at 0 ≤ rr_ kR_at 0) ∧ (rr_ kR_at 0 ≤ σ kR_size 0) ∧ (σ kR_at 0 < rr_ kR_at 0) ∧ (∀ i, (0 < σ kR_open 0 → i ≠ 65536 + σ kR_openAt (σ kR_open 0 - 1)) → rr_ kR_plan i = σ_35 kR_plan i) ∧ (0 < σ kR_open 0 → rr_ kR_plan (65536 + σ kR_openAt (σ kR_open 0 - 1)) = σ_35 kR_plan (65536 + σ kR_openAt (σ kR_open 0 - 1)) + 1) ∧ (rr_ kR_planMany 32 = σ_35 kR_planMany 32) ∧ (rr_ kR_pointMany 32 = σ_35 kR_pointMany 32) ∧ (rr_ kR_open 0 = σ kR_open 0) ∧ (∀ j, rr_ kR_openAt j = σ kR_openAt j) ∧ (rr_ kR_opened 0 = 0)) ?_ ?_
            · have c80 := ii_kR_open hσ_35 0
              have c81 := FR_at flσ_35 (c := kR_open) (by decide) 0
              have c82 := w32_rng (σ_35 kR_open 0)
              refine wp_if (fun c79 => ?_) (fun c79 => ?_)
              · try simp (disch := omega) only [w32_of, w64_of, w8_of, decide_eq_true_eq, decide_eq_false_iff_not, Bool.not_eq_true] at c79
                have c83 := w32_rng ((σ_35 kR_open 0) - 1)
                refine wp_rdI (by (try dsimp only) <;> first | assumption | omega | ((try simp (disch := omega) only [w32_of, w64_of, w8_of]) <;> first | assumption | omega | (split <;> omega) | (refine And.intro ?_ ?_ <;> split <;> omega)) | omega) (by (try dsimp only) <;> first | assumption | omega | ((try simp (disch := omega) only [w32_of, w64_of, w8_of]) <;> first | assumption | omega | (split <;> omega) | (refine And.intro ?_ ?_ <;> split <;> omega)) | omega) (fun x_45 e_x_45 => ?_)
                have b_x_45 : 0 ≤ x_45 ∧ x_45 ≤ 2047 := by rw [e_x_45]; exact ii_kR_openAt hσ_35 _
                try simp (disch := omega) only [w32_of, w64_of, w8_of] at e_x_45
                have c84 := ii_kR_openAt hσ_35 ((σ_35 kR_open 0) - 1)
                have c85 := FR_at flσ_35 (c := kR_openAt) (by decide) ((σ_35 kR_open 0) - 1)
                have c86 := ii_kR_openAt hσ_26 ((σ_35 kR_open 0) - 1)
                have c87 := FR_at flσ_26 (c := kR_openAt) (by decide) ((σ_35 kR_open 0) - 1)
                have c88 := ii_kR_openAt hσ_3 ((σ_35 kR_open 0) - 1)
                have c89 := FR_at flσ_3 (c := kR_openAt) (by decide) ((σ_35 kR_open 0) - 1)
                have c90 := ii_kR_openAt hσ_1 ((σ_35 kR_open 0) - 1)
                have c91 := FR_at flσ_1 (c := kR_openAt) (by decide) ((σ_35 kR_open 0) - 1)
                have c92 := ii_kR_openAt hσ ((σ_35 kR_open 0) - 1)
                have hx45 : x_45 = σ kR_openAt (σ kR_open 0 - 1) := by rw [e_x_45, oa35, o35]
                refine wp_bd (v_more (σ := σ_35) (number_0 := x_45) hσ_35 (by (try dsimp only) <;> first | assumption | omega | ((try simp (disch := omega) only [w32_of, w64_of, w8_of]) <;> first | assumption | omega | (split <;> omega) | (refine And.intro ?_ ?_ <;> split <;> omega)) | omega) (by (try dsimp only) <;> first | assumption | omega | ((try simp (disch := omega) only [w32_of, w64_of, w8_of]) <;> first | assumption | omega | (split <;> omega) | (refine And.intro ?_ ?_ <;> split <;> omega)) | omega)) ?_
                rintro σ_48 - ⟨hσ_48, flσ_48, ngσ_48, gm1, gm2⟩
                have frσ_48 : FR [kR_at, kR_faultKind, kR_faultPlace, kR_numberFrom, kR_numberTo, kR_numberWhole, kR_open, kR_openAt, kR_opened, kR_plan, kR_planMany, kR_pointMany, kR_value, kR_xs, kR_ys] σ σ_48 := FR_tr frσ_35 flσ_48 (by decide) (by decide)
                have nfσ_48 : NF σ σ_48 := NF_tr nfσ_35 ngσ_48
                try simp (disch := omega) only [w32_of, w64_of, w8_of] at gm1
                try simp (disch := omega) only [w32_of, w64_of, w8_of] at gm2
                have c93 := ii_kR_at hσ_48 0
                have c94 := FR_at flσ_48 (c := kR_at) (by decide) 0
                have c95 := ii_kR_openAt hσ (σ kR_open 0 - 1)
                have c96 := ii_kR_planMany hσ_48 32
                have c97 := FR_at flσ_48 (c := kR_planMany) (by decide) 32
                have c98 := ii_kR_pointMany hσ_48 32
                have c99 := FR_at flσ_48 (c := kR_pointMany) (by decide) 32
                have c100 := ii_kR_pointMany hσ_35 32
                have c101 := FR_at flσ_35 (c := kR_pointMany) (by decide) 32
                have c102 := ii_kR_pointMany hσ_26 32
                have c103 := FR_at flσ_26 (c := kR_pointMany) (by decide) 32
                have c104 := ii_kR_pointMany hσ_3 32
                have c105 := FR_at flσ_3 (c := kR_pointMany) (by decide) 32
                have c106 := ii_kR_pointMany hσ_1 32
                have c107 := FR_at flσ_1 (c := kR_pointMany) (by decide) 32
                have c108 := ii_kR_pointMany hσ 32
                have c109 := ii_kR_open hσ_48 0
                have c110 := FR_at flσ_48 (c := kR_open) (by decide) 0
                have c111 := ii_kR_opened hσ_48 0
                have c112 := FR_at flσ_48 (c := kR_opened) (by decide) 0
                have c113 := ii_kR_opened hσ_35 0
                have c114 := FR_at flσ_35 (c := kR_opened) (by decide) 0
                have c115 := ii_kR_opened hσ_26 0
                have c116 := FR_at flσ_26 (c := kR_opened) (by decide) 0
                have c117 := ii_kR_opened hσ_3 0
                have c118 := FR_at flσ_3 (c := kR_opened) (by decide) 0
                have c119 := ii_kR_opened hσ_1 0
                have c120 := sg_val eσ_1
                exact wp_some ⟨hσ_48, frσ_48, nfσ_48, (by (try dsimp only) <;> first | assumption | omega | ((try simp (disch := omega) only [w32_of, w64_of, w8_of]) <;> first | assumption | omega | (split <;> omega) | (refine And.intro ?_ ?_ <;> split <;> omega)) | omega), (by (try dsimp only) <;> first | assumption | omega | ((try simp (disch := omega) only [w32_of, w64_of, w8_of]) <;> first | assumption | omega | (split <;> omega) | (refine And.intro ?_ ?_ <;> split <;> omega)) | omega), (by (try dsimp only) <;> first | assumption | omega | ((try simp (disch := omega) only [w32_of, w64_of, w8_of]) <;> first | assumption | omega | (split <;> omega) | (refine And.intro ?_ ?_ <;> split <;> omega)) | omega), (by (try dsimp only) <;> (first | (intro i hi; exact gm2 i (by rw [hx45]; exact hi (by omega))) | (intro i hi; rfl))), (by (try dsimp only) <;> (first | (intro _; rw [← hx45]; exact gm1) | (intro q; exact absurd q (by omega)))), (by (try dsimp only) <;> first | assumption | omega | ((try simp (disch := omega) only [w32_of, w64_of, w8_of]) <;> first | assumption | omega | (split <;> omega) | (refine And.intro ?_ ?_ <;> split <;> omega)) | omega), (by (try dsimp only) <;> first | assumption | omega | ((try simp (disch := omega) only [w32_of, w64_of, w8_of]) <;> first | assumption | omega | (split <;> omega) | (refine And.intro ?_ ?_ <;> split <;> omega)) | omega), (by (try dsimp only) <;> first | assumption | omega | ((try simp (disch := omega) only [w32_of, w64_of, w8_of]) <;> first | assumption | omega | (split <;> omega) | (refine And.intro ?_ ?_ <;> split <;> omega)) | omega), (by (try dsimp only) <;> (first | (intro j; rw [FR_at flσ_48 (c := kR_openAt) (by decide)]; exact oa35 j) | exact oa35)), (by (try dsimp only) <;> first | assumption | omega | ((try simp (disch := omega) only [w32_of, w64_of, w8_of]) <;> first | assumption | omega | (split <;> omega) | (refine And.intro ?_ ?_ <;> split <;> omega)) | omega)⟩
              · try simp (disch := omega) only [w32_of, w64_of, w8_of, decide_eq_true_eq, decide_eq_false_iff_not, Bool.not_eq_true] at c79
                have c121 := ii_kR_openAt hσ (σ kR_open 0 - 1)
                have c122 := ii_kR_pointMany hσ_35 32
                have c123 := FR_at flσ_35 (c := kR_pointMany) (by decide) 32
                have c124 := ii_kR_pointMany hσ_26 32
                have c125 := FR_at flσ_26 (c := kR_pointMany) (by decide) 32
                have c126 := ii_kR_pointMany hσ_3 32
                have c127 := FR_at flσ_3 (c := kR_pointMany) (by decide) 32
                have c128 := ii_kR_pointMany hσ_1 32
                have c129 := FR_at flσ_1 (c := kR_pointMany) (by decide) 32
                have c130 := ii_kR_pointMany hσ 32
                have c131 := ii_kR_opened hσ_35 0
                have c132 := FR_at flσ_35 (c := kR_opened) (by decide) 0
                have c133 := ii_kR_opened hσ_26 0
                have c134 := FR_at flσ_26 (c := kR_opened) (by decide) 0
                have c135 := ii_kR_opened hσ_3 0
                have c136 := FR_at flσ_3 (c := kR_opened) (by decide) 0
                have c137 := ii_kR_opened hσ_1 0
                have c138 := sg_val eσ_1
                exact wp_some ⟨hσ_35, frσ_35, nfσ_35, (by (try dsimp only) <;> first | assumption | omega | ((try simp (disch := omega) only [w32_of, w64_of, w8_of]) <;> first | assumption | omega | (split <;> omega) | (refine And.intro ?_ ?_ <;> split <;> omega)) | omega), (by (try dsimp only) <;> first | assumption | omega | ((try simp (disch := omega) only [w32_of, w64_of, w8_of]) <;> first | assumption | omega | (split <;> omega) | (refine And.intro ?_ ?_ <;> split <;> omega)) | omega), (by (try dsimp only) <;> first | assumption | omega | ((try simp (disch := omega) only [w32_of, w64_of, w8_of]) <;> first | assumption | omega | (split <;> omega) | (refine And.intro ?_ ?_ <;> split <;> omega)) | omega), (by (try dsimp only) <;> (first | (intro i hi; exact gm2 i (by rw [hx45]; exact hi (by omega))) | (intro i hi; rfl))), (by (try dsimp only) <;> (first | (intro _; rw [← hx45]; exact gm1) | (intro q; exact absurd q (by omega)))), (by (try dsimp only) <;> first | assumption | omega | ((try simp (disch := omega) only [w32_of, w64_of, w8_of]) <;> first | assumption | omega | (split <;> omega) | (refine And.intro ?_ ?_ <;> split <;> omega)) | omega), (by (try dsimp only) <;> first | assumption | omega | ((try simp (disch := omega) only [w32_of, w64_of, w8_of]) <;> first | assumption | omega | (split <;> omega) | (refine And.intro ?_ ?_ <;> split <;> omega)) | omega), (by (try dsimp only) <;> first | assumption | omega | ((try simp (disch := omega) only [w32_of, w64_of, w8_of]) <;> first | assumption | omega | (split <;> omega) | (refine And.intro ?_ ?_ <;> split <;> omega)) | omega), (by (try dsimp only) <;> (first | (intro j; rw [FR_at flσ_48 (c := kR_openAt) (by decide)]; exact oa35 j) | exact oa35)), (by (try dsimp only) <;> first | assumption | omega | ((try simp (disch := omega) only [w32_of, w64_of, w8_of]) <;> first | assumption | omega | (split <;> omega) | (refine And.intro ?_ ?_ <;> split <;> omega)) | omega)⟩
            rintro σ_51 _ ⟨hσ_51, frσ_51, nfσ_51, g139, g140, g141, ga, gb, gc1, gc2, gc3, gc4, gc5⟩
            have sp : ∀ i, i < 65536 + σ kR_planMany 32 → (0 < σ kR_open 0 → i ≠ 65536 + σ kR_openAt (σ kR_open 0 - 1)) → σ_51 kR_plan i = σ kR_plan i := fun i a b => by rw [ga i b, gp6 i a]; exact p26 i
            have sm : 0 < σ kR_open 0 → σ_51 kR_plan (65536 + σ kR_openAt (σ kR_open 0 - 1)) = σ kR_plan (65536 + σ kR_openAt (σ kR_open 0 - 1)) + 1 := fun q => by rw [gb q, gp6 _ (wb1 q).2.1]; rw [p26]
            have sk : σ_51 kR_plan (65536 + σ kR_planMany 32) = x_27 := by rw [ga _ (fun q => by have := (wb1 q).2.1; omega)]; exact hp4
            have sn : σ_51 kR_plan (65536 + σ kR_planMany 32 + 1) = 0 := by rw [ga _ (fun q => by have := (wb1 q).2.1; omega)]; exact hp5
            refine wp_bdk ?_
            refine wp_bd (v_here (σ := σ_51) hσ_51) ?_
            rintro x_77 - ⟨gr, gv, gd⟩
            try simp (disch := omega) only [w32_of, w64_of, w8_of] at gr
            try simp (disch := omega) only [w32_of, w64_of, w8_of] at gv
            have c142 := ii_kR_at hσ_51 0
            have c143 := ii_kR_size hσ_51 0
            have c144 := FR_at frσ_51 (c := kR_size) (by decide) 0
            try simp (disch := omega) only [w32_of, w64_of, w8_of] at gd
            have c146 := w32_rng x_77
            refine wp_if (fun c145 => ?_) (fun c145 => ?_)
            · try simp (disch := omega) only [w32_of, w64_of, w8_of, decide_eq_true_eq, decide_eq_false_iff_not, Bool.not_eq_true] at c145
              refine wp_bd (v_here (σ := σ_51) hσ_51) ?_
              rintro x_80 - ⟨gr, gv, gd⟩
              try simp (disch := omega) only [w32_of, w64_of, w8_of] at gr
              try simp (disch := omega) only [w32_of, w64_of, w8_of] at gv
              try simp (disch := omega) only [w32_of, w64_of, w8_of] at gd
              refine wp_if (fun c147 => ?_) (fun c147 => ?_)
              · try simp (disch := omega) only [w32_of, w64_of, w8_of, decide_eq_true_eq, decide_eq_false_iff_not, Bool.not_eq_true, fR_isLetter] at c147
                refine wp_somek ?_
                try dsimp only
                refine wp_tt ?_
                refine wp_bd (v_emptyWord (σ := σ_51) hσ_51 (by (try dsimp only) <;> first | assumption | omega | ((try simp (disch := omega) only [w32_of, w64_of, w8_of]) <;> first | assumption | omega | (split <;> omega) | (refine And.intro ?_ ?_ <;> split <;> omega)) | omega)) ?_
                rintro ⟨x_88, σ_87⟩ - y150
                try dsimp only at y150 ⊢
                obtain ⟨hσ_87, flσ_87, g148, g149⟩ := y150
                have frσ_87 : FR [kR_at, kR_faultKind, kR_faultPlace, kR_numberFrom, kR_numberTo, kR_numberWhole, kR_open, kR_openAt, kR_opened, kR_plan, kR_planMany, kR_pointMany, kR_value, kR_xs, kR_ys] σ σ_87 := FR_tr frσ_51 flσ_87 (by decide) (by decide)
                have nfσ_87 : NF σ σ_87 := NF_fr nfσ_51 flσ_87 (by decide)
                have c151 := ii_kR_at hσ_87 0
                try simp (disch := omega) only [w32_of, w64_of, w8_of] at g148
                try simp (disch := omega) only [w32_of, w64_of, w8_of] at g149
                have z1 : ∀ i, σ_87 kR_plan i = σ_51 kR_plan i := FR_at flσ_87 (c := kR_plan) (by decide)
                have z2 : σ_87 kR_planMany 32 = σ_51 kR_planMany 32 := FR_at flσ_87 (c := kR_planMany) (by decide) 32
                have z3 : σ_87 kR_pointMany 32 = σ_51 kR_pointMany 32 := FR_at flσ_87 (c := kR_pointMany) (by decide) 32
                have z4 : σ_87 kR_open 0 = σ_51 kR_open 0 := FR_at flσ_87 (c := kR_open) (by decide) 0
                have z5 : ∀ j, σ_87 kR_openAt j = σ_51 kR_openAt j := FR_at flσ_87 (c := kR_openAt) (by decide)
                have op0 : nz (σ_87 kR_opened 0) = false := by rw [FR_at flσ_87 (c := kR_opened) (by decide), gc5]; decide
                have skz : σ_87 kR_plan (65536 + σ kR_planMany 32) = x_27 := by rw [z1]; exact sk
                have snz : σ_87 kR_plan (65536 + σ kR_planMany 32 + 1) = 0 := by rw [z1]; exact sn
                obtain ⟨ue1, ue2⟩ := UN_empty (σ := σ) (τ := σ_87) (p := 65536 + σ kR_planMany 32) (k := x_27) (d := 50 - (σ kR_open 0).toNat) (fun q => by omega) (by omega) skz snz (by omega) (by omega)
                have u1 : WSs σ_87 false := WS_unit w1 ho.1 ho.2 (by omega) (fun j => (z5 j).trans (gc4 j)) ue1 ue2 (fun i a b => (z1 i).trans (sp i a b)) (fun q => by rw [z1]; exact sm q)
                have c152 := ii_kR_opened hσ_87 0
                have c153 := FR_at flσ_87 (c := kR_opened) (by decide) 0
                have c154 := ii_kR_opened hσ_51 0
                exact wp_some ⟨hσ_87, frσ_87, nfσ_87, (by (try dsimp only) <;> first | assumption | omega | ((try simp (disch := omega) only [w32_of, w64_of, w8_of]) <;> first | assumption | omega | (split <;> omega) | (refine And.intro ?_ ?_ <;> split <;> omega)) | omega), (by (try dsimp only) <;> first | assumption | omega | ((try simp (disch := omega) only [w32_of, w64_of, w8_of]) <;> first | assumption | omega | (split <;> omega) | (refine And.intro ?_ ?_ <;> split <;> omega)) | omega), (by intro q9; (try dsimp only) <;> first | assumption | omega | ((try simp (disch := omega) only [w32_of, w64_of, w8_of]) <;> first | assumption | omega | (split <;> omega) | (refine And.intro ?_ ?_ <;> split <;> omega)) | omega), (by (try dsimp only) <;> (first | exact fun _ _ => u1 | exact fun q _ => u2 q | exact fun _ z => absurd (z.symm.trans op1) Bool.false_ne_true)), (by (try dsimp only) <;> (first | exact fun _ _ => u3 | exact fun _ z => absurd (z.symm.trans op0).symm Bool.false_ne_true))⟩
              · try simp (disch := omega) only [w32_of, w64_of, w8_of, decide_eq_true_eq, decide_eq_false_iff_not, Bool.not_eq_true, fR_isLetter] at c147
                refine wp_somek ?_
                try dsimp only
                refine wp_ft ?_
                refine wp_bd (v_here (σ := σ_51) hσ_51) ?_
                rintro x_90 - ⟨gr, gv, gd⟩
                try simp (disch := omega) only [w32_of, w64_of, w8_of] at gr
                try simp (disch := omega) only [w32_of, w64_of, w8_of] at gv
                try simp (disch := omega) only [w32_of, w64_of, w8_of] at gd
                have c156 := w32_rng x_90
                refine wp_if (fun c155 => ?_) (fun c155 => ?_)
                · try simp (disch := omega) only [w32_of, w64_of, w8_of, decide_eq_true_eq, decide_eq_false_iff_not, Bool.not_eq_true] at c155
                  refine wp_bd (v_strange (σ := σ_51) (word_0 := true) hσ_51) ?_
                  rintro ⟨x_94, σ_93⟩ - y158
                  try dsimp only at y158 ⊢
                  obtain ⟨hσ_93, flσ_93, g157⟩ := y158
                  have frσ_93 : FR [kR_at, kR_faultKind, kR_faultPlace, kR_numberFrom, kR_numberTo, kR_numberWhole, kR_open, kR_openAt, kR_opened, kR_plan, kR_planMany, kR_pointMany, kR_value, kR_xs, kR_ys] σ σ_93 := FR_tr frσ_51 flσ_93 (by decide) (by decide)
                  have nfσ_93 : NF σ σ_93 := NF_fr nfσ_51 flσ_93 (by decide)
                  try simp (disch := omega) only [w32_of, w64_of, w8_of] at g157
                  have c159 := ii_kR_at hσ_93 0
                  have c160 := FR_at flσ_93 (c := kR_at) (by decide) 0
                  have c161 := ii_kR_opened hσ_93 0
                  have c162 := FR_at flσ_93 (c := kR_opened) (by decide) 0
                  have c163 := ii_kR_opened hσ_51 0
                  exact wp_some ⟨hσ_93, frσ_93, nfσ_93, (by (try dsimp only) <;> first | assumption | omega | ((try simp (disch := omega) only [w32_of, w64_of, w8_of]) <;> first | assumption | omega | (split <;> omega) | (refine And.intro ?_ ?_ <;> split <;> omega)) | omega), (by (try dsimp only) <;> first | assumption | omega | ((try simp (disch := omega) only [w32_of, w64_of, w8_of]) <;> first | assumption | omega | (split <;> omega) | (refine And.intro ?_ ?_ <;> split <;> omega)) | omega), (fun q => absurd (q.symm.trans g157) (by decide)), (fun q => absurd (q.symm.trans g157) (by decide)), (fun q => absurd (q.symm.trans g157) (by decide))⟩
                · try simp (disch := omega) only [w32_of, w64_of, w8_of, decide_eq_true_eq, decide_eq_false_iff_not, Bool.not_eq_true] at c155
                  refine wp_wfI hσ_51 b_kR_at (by (try dsimp only) <;> first | assumption | omega | ((try simp (disch := omega) only [w32_of, w64_of, w8_of]) <;> first | assumption | omega | (split <;> omega) | (refine And.intro ?_ ?_ <;> split <;> omega)) | omega) (fun σ_95 hσ_95 eσ_95 => ?_)
                  try simp (disch := omega) only [w32_of, w64_of, w8_of] at eσ_95
                  have flσ_95 := FR_sg eσ_95
                  have frσ_95 : FR [kR_at, kR_faultKind, kR_faultPlace, kR_numberFrom, kR_numberTo, kR_numberWhole, kR_open, kR_openAt, kR_opened, kR_plan, kR_planMany, kR_pointMany, kR_value, kR_xs, kR_ys] σ σ_95 := FR_tr frσ_51 flσ_95 (by decide) (by decide)
                  have nfσ_95 : NF σ σ_95 := NF_fr nfσ_51 flσ_95 (by decide)
                  refine wp_if (fun c164 => ?_) (fun c164 => ?_)
                  · try simp (disch := omega) only [w32_of, w64_of, w8_of, decide_eq_true_eq, decide_eq_false_iff_not, Bool.not_eq_true] at c164
                    have c165 := ii_kR_open hσ_95 0
                    have c166 := FR_at flσ_95 (c := kR_open) (by decide) 0
                    have c167 := ii_kR_open hσ_51 0
                    have c168 := w32_rng (σ_95 kR_open 0)
                    refine wp_waI hσ_95 b_kR_openAt (by (try dsimp only) <;> first | assumption | omega | ((try simp (disch := omega) only [w32_of, w64_of, w8_of]) <;> first | assumption | omega | (split <;> omega) | (refine And.intro ?_ ?_ <;> split <;> omega)) | omega) (by (try dsimp only) <;> first | assumption | omega | ((try simp (disch := omega) only [w32_of, w64_of, w8_of]) <;> first | assumption | omega | (split <;> omega) | (refine And.intro ?_ ?_ <;> split <;> omega)) | omega) (by (try dsimp only) <;> first | assumption | omega | ((try simp (disch := omega) only [w32_of, w64_of, w8_of]) <;> first | assumption | omega | (split <;> omega) | (refine And.intro ?_ ?_ <;> split <;> omega)) | omega) (fun σ_97 hσ_97 eσ_97 => ?_)
                    try simp (disch := omega) only [w32_of, w64_of, w8_of] at eσ_97
                    have flσ_97 := FR_sg eσ_97
                    have frσ_97 : FR [kR_at, kR_faultKind, kR_faultPlace, kR_numberFrom, kR_numberTo, kR_numberWhole, kR_open, kR_openAt, kR_opened, kR_plan, kR_planMany, kR_pointMany, kR_value, kR_xs, kR_ys] σ σ_97 := FR_tr frσ_95 flσ_97 (by decide) (by decide)
                    have nfσ_97 : NF σ σ_97 := NF_fr nfσ_95 flσ_97 (by decide)
                    have c169 := ii_kR_open hσ_97 0
                    have c170 := FR_at flσ_97 (c := kR_open) (by decide) 0
                    refine wp_wfI hσ_97 b_kR_open (by (try dsimp only) <;> first | assumption | omega | ((try simp (disch := omega) only [w32_of, w64_of, w8_of]) <;> first | assumption | omega | (split <;> omega) | (refine And.intro ?_ ?_ <;> split <;> omega)) | omega) (fun σ_99 hσ_99 eσ_99 => ?_)
                    try simp (disch := omega) only [w32_of, w64_of, w8_of] at eσ_99
                    have flσ_99 := FR_sg eσ_99
                    have frσ_99 : FR [kR_at, kR_faultKind, kR_faultPlace, kR_numberFrom, kR_numberTo, kR_numberWhole, kR_open, kR_openAt, kR_opened, kR_plan, kR_planMany, kR_pointMany, kR_value, kR_xs, kR_ys] σ σ_99 := FR_tr frσ_97 flσ_99 (by decide) (by decide)
                    have nfσ_99 : NF σ σ_99 := NF_fr nfσ_97 flσ_99 (by decide)
                    have c171 := bz_bd true
                    try simp (disch := omega) only [w32_of, w64_of, w8_of] at c171
                    refine wp_wfI hσ_99 b_kR_opened (by (try dsimp only) <;> first | assumption | omega | ((try simp (disch := omega) only [w32_of, w64_of, w8_of]) <;> first | assumption | omega | (split <;> omega) | (refine And.intro ?_ ?_ <;> split <;> omega)) | omega) (fun σ_100 hσ_100 eσ_100 => ?_)
                    try simp (disch := omega) only [w32_of, w64_of, w8_of] at eσ_100
                    have flσ_100 := FR_sg eσ_100
                    have frσ_100 : FR [kR_at, kR_faultKind, kR_faultPlace, kR_numberFrom, kR_numberTo, kR_numberWhole, kR_open, kR_openAt, kR_opened, kR_plan, kR_planMany, kR_pointMany, kR_value, kR_xs, kR_ys] σ σ_100 := FR_tr frσ_99 flσ_100 (by decide) (by decide)
                    have nfσ_100 : NF σ σ_100 := NF_fr nfσ_99 flσ_100 (by decide)
                    have u3 : WSs σ_100 true := by
                      have y1 : ∀ i, σ_100 kR_plan i = σ_51 kR_plan i := fun i => by simp (disch := first | decide | omega) only [eσ_100, eσ_99, eσ_97, eσ_95, sg_at, sg_nc, sg_ni]
                      have y2 : σ_100 kR_planMany 32 = σ_51 kR_planMany 32 := by simp (disch := first | decide | omega) only [eσ_100, eσ_99, eσ_97, eσ_95, sg_at, sg_nc, sg_ni]
                      have y3 : σ_100 kR_pointMany 32 = σ_51 kR_pointMany 32 := by simp (disch := first | decide | omega) only [eσ_100, eσ_99, eσ_97, eσ_95, sg_at, sg_nc, sg_ni]
                      have y95 : σ_95 kR_open 0 = σ kR_open 0 := by rw [FR_at flσ_95 (c := kR_open) (by decide)]; exact gc3
                      have y97 : σ_97 kR_open 0 = σ kR_open 0 := by rw [FR_at flσ_97 (c := kR_open) (by decide)]; exact y95
                      have y4 : σ_100 kR_open 0 = σ kR_open 0 + 1 := by
                        rw [FR_at flσ_100 (c := kR_open) (by decide), sg_val eσ_99, y97]
                      have y5 : ∀ j, σ_100 kR_openAt j = σ_97 kR_openAt j := fun j => by rw [FR_at flσ_100 (c := kR_openAt) (by decide), FR_at flσ_99 (c := kR_openAt) (by decide)]
                      rw [y95] at eσ_97
                      exact WS_open w1 ho.1 (by omega) y4 (fun j hj => by rw [y5, eσ_97, sg_ni hj, FR_at flσ_95 (c := kR_openAt) (by decide)]; exact gc4 j) (by rw [y5, eσ_97, sg_at]; omega) (by omega) (by omega) (by rw [y1, sk]; omega) (by rw [y1]; exact sn) (fun i a b => (y1 i).trans (sp i a b)) (fun q => by rw [y1]; exact sm q)
                    have op1 : nz (σ_100 kR_opened 0) = true := by rw [sg_val eσ_100]; decide
                    have c172 := ii_kR_at hσ_100 0
                    have c173 := FR_at flσ_100 (c := kR_at) (by decide) 0
                    have c174 := ii_kR_at hσ_99 0
                    have c175 := FR_at flσ_99 (c := kR_at) (by decide) 0
                    have c176 := ii_kR_at hσ_97 0
                    have c177 := FR_at flσ_97 (c := kR_at) (by decide) 0
                    have c178 := ii_kR_at hσ_95 0
                    have c179 := sg_val eσ_95
                    have c180 := ii_kR_opened hσ_100 0
                    have c181 := sg_val eσ_100
                    exact wp_some ⟨hσ_100, frσ_100, nfσ_100, (by (try dsimp only) <;> first | assumption | omega | ((try simp (disch := omega) only [w32_of, w64_of, w8_of]) <;> first | assumption | omega | (split <;> omega) | (refine And.intro ?_ ?_ <;> split <;> omega)) | omega), (by (try dsimp only) <;> first | assumption | omega | ((try simp (disch := omega) only [w32_of, w64_of, w8_of]) <;> first | assumption | omega | (split <;> omega) | (refine And.intro ?_ ?_ <;> split <;> omega)) | omega), (by intro q9; (try dsimp only) <;> first | assumption | omega | ((try simp (disch := omega) only [w32_of, w64_of, w8_of]) <;> first | assumption | omega | (split <;> omega) | (refine And.intro ?_ ?_ <;> split <;> omega)) | omega), (by (try dsimp only) <;> (first | exact fun _ _ => u1 | exact fun q _ => u2 q | exact fun _ z => absurd (z.symm.trans op1) Bool.false_ne_true)), (by (try dsimp only) <;> (first | exact fun _ _ => u3 | exact fun _ z => absurd (z.symm.trans op0).symm Bool.false_ne_true))⟩
                  · try simp (disch := omega) only [w32_of, w64_of, w8_of, decide_eq_true_eq, decide_eq_false_iff_not, Bool.not_eq_true] at c164
                    have z6 : 65536 + (x_38 - 1) = 65536 + σ kR_planMany 32 + 1 := by omega
                    have z7 : 65536 + (x_38 - 1) - 1 = 65536 + σ kR_planMany 32 := by omega
                    have z1 : ∀ i, σ_95 kR_plan i = σ_51 kR_plan i := FR_at flσ_95 (c := kR_plan) (by decide)
                    have z3 : σ_95 kR_pointMany 32 = σ_51 kR_pointMany 32 := FR_at flσ_95 (c := kR_pointMany) (by decide) 32
                    have c182 := ii_kR_at hσ_95 0
                    have c183 := sg_val eσ_95
                    have c184 := ii_kR_size hσ_95 0
                    have c185 := FR_at flσ_95 (c := kR_size) (by decide) 0
                    have c186 := FR_at flσ_95 (c := kR_plan) (by decide) (65536 + (x_38 - 1))
                    have c187 := ii_kR_planMany hσ_95 32
                    have c188 := FR_at flσ_95 (c := kR_planMany) (by decide) 32
                    have c189 := ii_kR_planMany hσ_51 32
                    have c190 := FR_at flσ_95 (c := kR_plan) (by decide) (65536 + (x_38 - 1) - 1)
                    refine wp_bd (v_body (σ := σ_95) (kind_0 := x_27) (number_0 := (x_38 - 1)) hσ_95 (by (try dsimp only) <;> first | assumption | omega | ((try simp (disch := omega) only [w32_of, w64_of, w8_of]) <;> first | assumption | omega | (split <;> omega) | (refine And.intro ?_ ?_ <;> split <;> omega)) | omega) (by (try dsimp only) <;> first | assumption | omega | ((try simp (disch := omega) only [w32_of, w64_of, w8_of]) <;> first | assumption | omega | (split <;> omega) | (refine And.intro ?_ ?_ <;> split <;> omega)) | omega) (by (try dsimp only) <;> first | assumption | omega | ((try simp (disch := omega) only [w32_of, w64_of, w8_of]) <;> first | assumption | omega | (split <;> omega) | (refine And.intro ?_ ?_ <;> split <;> omega)) | omega) (by (try dsimp only) <;> first | assumption | omega | ((try simp (disch := omega) only [w32_of, w64_of, w8_of]) <;> first | assumption | omega | (split <;> omega) | (refine And.intro ?_ ?_ <;> split <;> omega)) | omega) (by rw [z6, z1]; exact sn) (by (try dsimp only) <;> first | assumption | omega | ((try simp (disch := omega) only [w32_of, w64_of, w8_of]) <;> first | assumption | omega | (split <;> omega) | (refine And.intro ?_ ?_ <;> split <;> omega)) | omega) (by rw [z7, z1]; exact sk)) ?_
                    rintro ⟨x_103, σ_102⟩ - y191
                    try dsimp only at y191 ⊢
                    obtain ⟨hσ_102, flσ_102, ngσ_102, gb1, gb2, gb3⟩ := y191
                    have frσ_102 : FR [kR_at, kR_faultKind, kR_faultPlace, kR_numberFrom, kR_numberTo, kR_numberWhole, kR_open, kR_openAt, kR_opened, kR_plan, kR_planMany, kR_pointMany, kR_value, kR_xs, kR_ys] σ σ_102 := FR_tr frσ_95 flσ_102 (by decide) (by decide)
                    have nfσ_102 : NF σ σ_102 := NF_tr nfσ_95 ngσ_102
                    have c192 := ii_kR_at hσ_102 0
                    try simp (disch := omega) only [w32_of, w64_of, w8_of] at gb1
                    try simp (disch := omega) only [w32_of, w64_of, w8_of] at gb2
                    try simp (disch := omega) only [w32_of, w64_of, w8_of] at gb3
                    have z4 : σ_102 kR_open 0 = σ kR_open 0 := by rw [FR_at flσ_102 (c := kR_open) (by decide), FR_at flσ_95 (c := kR_open) (by decide)]; exact gc3
                    have z5 : ∀ j, σ_102 kR_openAt j = σ kR_openAt j := fun j => by rw [FR_at flσ_102 (c := kR_openAt) (by decide), FR_at flσ_95 (c := kR_openAt) (by decide)]; exact gc4 j
                    have op0 : nz (σ_102 kR_opened 0) = false := by rw [FR_at flσ_102 (c := kR_opened) (by decide), FR_at flσ_95 (c := kR_opened) (by decide), gc5]; decide
                    have u2 : (x_103 = true) → WSs σ_102 false := fun q => by
                      have g := gb3 q
                      rw [z7] at g
                      obtain ⟨⟨f1, g1⟩, ⟨m1, g2⟩, g3⟩ := g
                      refine WS_unit w1 ho.1 ho.2 z4 z5 ⟨f1, TU_up g1 (Nat.le_refl _) (Nat.zero_le _)⟩ ⟨m1, ?_⟩ (fun i a b => (g3 i a).trans ((z1 i).trans (sp i a b))) (fun q => by rw [g3 _ (wb1 q).2.1, z1]; exact sm q)
                      rw [show σ_102 kR_pointMany 32 - σ kR_pointMany 32 = σ_102 kR_pointMany 32 - σ_95 kR_pointMany 32 by omega]; exact g2
                    have c193 := ii_kR_opened hσ_102 0
                    have c194 := FR_at flσ_102 (c := kR_opened) (by decide) 0
                    have c195 := ii_kR_opened hσ_95 0
                    have c196 := FR_at flσ_95 (c := kR_opened) (by decide) 0
                    have c197 := ii_kR_opened hσ_51 0
                    exact wp_some ⟨hσ_102, frσ_102, nfσ_102, (by (try dsimp only) <;> first | assumption | omega | ((try simp (disch := omega) only [w32_of, w64_of, w8_of]) <;> first | assumption | omega | (split <;> omega) | (refine And.intro ?_ ?_ <;> split <;> omega)) | omega), (by (try dsimp only) <;> first | assumption | omega | ((try simp (disch := omega) only [w32_of, w64_of, w8_of]) <;> first | assumption | omega | (split <;> omega) | (refine And.intro ?_ ?_ <;> split <;> omega)) | omega), (by intro q9; have k9_0 := gb3 q9; (try dsimp only) <;> first | assumption | omega | ((try simp (disch := omega) only [w32_of, w64_of, w8_of]) <;> first | assumption | omega | (split <;> omega) | (refine And.intro ?_ ?_ <;> split <;> omega)) | omega), (by (try dsimp only) <;> (first | exact fun _ _ => u1 | exact fun q _ => u2 q | exact fun _ z => absurd (z.symm.trans op1) Bool.false_ne_true)), (by (try dsimp only) <;> (first | exact fun _ _ => u3 | exact fun _ z => absurd (z.symm.trans op0).symm Bool.false_ne_true))⟩
            · try simp (disch := omega) only [w32_of, w64_of, w8_of, decide_eq_true_eq, decide_eq_false_iff_not, Bool.not_eq_true] at c145
              refine wp_somek ?_
              try dsimp only
              refine wp_ft ?_
              refine wp_bd (v_here (σ := σ_51) hσ_51) ?_
              rintro x_90 - ⟨gr, gv, gd⟩
              try simp (disch := omega) only [w32_of, w64_of, w8_of] at gr
              try simp (disch := omega) only [w32_of, w64_of, w8_of] at gv
              try simp (disch := omega) only [w32_of, w64_of, w8_of] at gd
              have c199 := w32_rng x_90
              refine wp_if (fun c198 => ?_) (fun c198 => ?_)
              · try simp (disch := omega) only [w32_of, w64_of, w8_of, decide_eq_true_eq, decide_eq_false_iff_not, Bool.not_eq_true] at c198
                refine wp_bd (v_strange (σ := σ_51) (word_0 := true) hσ_51) ?_
                rintro ⟨x_94, σ_93⟩ - y201
                try dsimp only at y201 ⊢
                obtain ⟨hσ_93, flσ_93, g200⟩ := y201
                have frσ_93 : FR [kR_at, kR_faultKind, kR_faultPlace, kR_numberFrom, kR_numberTo, kR_numberWhole, kR_open, kR_openAt, kR_opened, kR_plan, kR_planMany, kR_pointMany, kR_value, kR_xs, kR_ys] σ σ_93 := FR_tr frσ_51 flσ_93 (by decide) (by decide)
                have nfσ_93 : NF σ σ_93 := NF_fr nfσ_51 flσ_93 (by decide)
                try simp (disch := omega) only [w32_of, w64_of, w8_of] at g200
                have c202 := ii_kR_at hσ_93 0
                have c203 := FR_at flσ_93 (c := kR_at) (by decide) 0
                have c204 := ii_kR_opened hσ_93 0
                have c205 := FR_at flσ_93 (c := kR_opened) (by decide) 0
                have c206 := ii_kR_opened hσ_51 0
                exact wp_some ⟨hσ_93, frσ_93, nfσ_93, (by (try dsimp only) <;> first | assumption | omega | ((try simp (disch := omega) only [w32_of, w64_of, w8_of]) <;> first | assumption | omega | (split <;> omega) | (refine And.intro ?_ ?_ <;> split <;> omega)) | omega), (by (try dsimp only) <;> first | assumption | omega | ((try simp (disch := omega) only [w32_of, w64_of, w8_of]) <;> first | assumption | omega | (split <;> omega) | (refine And.intro ?_ ?_ <;> split <;> omega)) | omega), (fun q => absurd (q.symm.trans g200) (by decide)), (fun q => absurd (q.symm.trans g200) (by decide)), (fun q => absurd (q.symm.trans g200) (by decide))⟩
              · try simp (disch := omega) only [w32_of, w64_of, w8_of, decide_eq_true_eq, decide_eq_false_iff_not, Bool.not_eq_true] at c198
                refine wp_wfI hσ_51 b_kR_at (by (try dsimp only) <;> first | assumption | omega | ((try simp (disch := omega) only [w32_of, w64_of, w8_of]) <;> first | assumption | omega | (split <;> omega) | (refine And.intro ?_ ?_ <;> split <;> omega)) | omega) (fun σ_95 hσ_95 eσ_95 => ?_)
                try simp (disch := omega) only [w32_of, w64_of, w8_of] at eσ_95
                have flσ_95 := FR_sg eσ_95
                have frσ_95 : FR [kR_at, kR_faultKind, kR_faultPlace, kR_numberFrom, kR_numberTo, kR_numberWhole, kR_open, kR_openAt, kR_opened, kR_plan, kR_planMany, kR_pointMany, kR_value, kR_xs, kR_ys] σ σ_95 := FR_tr frσ_51 flσ_95 (by decide) (by decide)
                have nfσ_95 : NF σ σ_95 := NF_fr nfσ_51 flσ_95 (by decide)
                refine wp_if (fun c207 => ?_) (fun c207 => ?_)
                · try simp (disch := omega) only [w32_of, w64_of, w8_of, decide_eq_true_eq, decide_eq_false_iff_not, Bool.not_eq_true] at c207
                  have c208 := ii_kR_open hσ_95 0
                  have c209 := FR_at flσ_95 (c := kR_open) (by decide) 0
                  have c210 := ii_kR_open hσ_51 0
                  have c211 := w32_rng (σ_95 kR_open 0)
                  refine wp_waI hσ_95 b_kR_openAt (by (try dsimp only) <;> first | assumption | omega | ((try simp (disch := omega) only [w32_of, w64_of, w8_of]) <;> first | assumption | omega | (split <;> omega) | (refine And.intro ?_ ?_ <;> split <;> omega)) | omega) (by (try dsimp only) <;> first | assumption | omega | ((try simp (disch := omega) only [w32_of, w64_of, w8_of]) <;> first | assumption | omega | (split <;> omega) | (refine And.intro ?_ ?_ <;> split <;> omega)) | omega) (by (try dsimp only) <;> first | assumption | omega | ((try simp (disch := omega) only [w32_of, w64_of, w8_of]) <;> first | assumption | omega | (split <;> omega) | (refine And.intro ?_ ?_ <;> split <;> omega)) | omega) (fun σ_97 hσ_97 eσ_97 => ?_)
                  try simp (disch := omega) only [w32_of, w64_of, w8_of] at eσ_97
                  have flσ_97 := FR_sg eσ_97
                  have frσ_97 : FR [kR_at, kR_faultKind, kR_faultPlace, kR_numberFrom, kR_numberTo, kR_numberWhole, kR_open, kR_openAt, kR_opened, kR_plan, kR_planMany, kR_pointMany, kR_value, kR_xs, kR_ys] σ σ_97 := FR_tr frσ_95 flσ_97 (by decide) (by decide)
                  have nfσ_97 : NF σ σ_97 := NF_fr nfσ_95 flσ_97 (by decide)
                  have c212 := ii_kR_open hσ_97 0
                  have c213 := FR_at flσ_97 (c := kR_open) (by decide) 0
                  refine wp_wfI hσ_97 b_kR_open (by (try dsimp only) <;> first | assumption | omega | ((try simp (disch := omega) only [w32_of, w64_of, w8_of]) <;> first | assumption | omega | (split <;> omega) | (refine And.intro ?_ ?_ <;> split <;> omega)) | omega) (fun σ_99 hσ_99 eσ_99 => ?_)
                  try simp (disch := omega) only [w32_of, w64_of, w8_of] at eσ_99
                  have flσ_99 := FR_sg eσ_99
                  have frσ_99 : FR [kR_at, kR_faultKind, kR_faultPlace, kR_numberFrom, kR_numberTo, kR_numberWhole, kR_open, kR_openAt, kR_opened, kR_plan, kR_planMany, kR_pointMany, kR_value, kR_xs, kR_ys] σ σ_99 := FR_tr frσ_97 flσ_99 (by decide) (by decide)
                  have nfσ_99 : NF σ σ_99 := NF_fr nfσ_97 flσ_99 (by decide)
                  have c214 := bz_bd true
                  try simp (disch := omega) only [w32_of, w64_of, w8_of] at c214
                  refine wp_wfI hσ_99 b_kR_opened (by (try dsimp only) <;> first | assumption | omega | ((try simp (disch := omega) only [w32_of, w64_of, w8_of]) <;> first | assumption | omega | (split <;> omega) | (refine And.intro ?_ ?_ <;> split <;> omega)) | omega) (fun σ_100 hσ_100 eσ_100 => ?_)
                  try simp (disch := omega) only [w32_of, w64_of, w8_of] at eσ_100
                  have flσ_100 := FR_sg eσ_100
                  have frσ_100 : FR [kR_at, kR_faultKind, kR_faultPlace, kR_numberFrom, kR_numberTo, kR_numberWhole, kR_open, kR_openAt, kR_opened, kR_plan, kR_planMany, kR_pointMany, kR_value, kR_xs, kR_ys] σ σ_100 := FR_tr frσ_99 flσ_100 (by decide) (by decide)
                  have nfσ_100 : NF σ σ_100 := NF_fr nfσ_99 flσ_100 (by decide)
                  have u3 : WSs σ_100 true := by
                    have y1 : ∀ i, σ_100 kR_plan i = σ_51 kR_plan i := fun i => by simp (disch := first | decide | omega) only [eσ_100, eσ_99, eσ_97, eσ_95, sg_at, sg_nc, sg_ni]
                    have y2 : σ_100 kR_planMany 32 = σ_51 kR_planMany 32 := by simp (disch := first | decide | omega) only [eσ_100, eσ_99, eσ_97, eσ_95, sg_at, sg_nc, sg_ni]
                    have y3 : σ_100 kR_pointMany 32 = σ_51 kR_pointMany 32 := by simp (disch := first | decide | omega) only [eσ_100, eσ_99, eσ_97, eσ_95, sg_at, sg_nc, sg_ni]
                    have y95 : σ_95 kR_open 0 = σ kR_open 0 := by rw [FR_at flσ_95 (c := kR_open) (by decide)]; exact gc3
                    have y97 : σ_97 kR_open 0 = σ kR_open 0 := by rw [FR_at flσ_97 (c := kR_open) (by decide)]; exact y95
                    have y4 : σ_100 kR_open 0 = σ kR_open 0 + 1 := by
                      rw [FR_at flσ_100 (c := kR_open) (by decide), sg_val eσ_99, y97]
                    have y5 : ∀ j, σ_100 kR_openAt j = σ_97 kR_openAt j := fun j => by rw [FR_at flσ_100 (c := kR_openAt) (by decide), FR_at flσ_99 (c := kR_openAt) (by decide)]
                    rw [y95] at eσ_97
                    exact WS_open w1 ho.1 (by omega) y4 (fun j hj => by rw [y5, eσ_97, sg_ni hj, FR_at flσ_95 (c := kR_openAt) (by decide)]; exact gc4 j) (by rw [y5, eσ_97, sg_at]; omega) (by omega) (by omega) (by rw [y1, sk]; omega) (by rw [y1]; exact sn) (fun i a b => (y1 i).trans (sp i a b)) (fun q => by rw [y1]; exact sm q)
                  have op1 : nz (σ_100 kR_opened 0) = true := by rw [sg_val eσ_100]; decide
                  have c215 := ii_kR_at hσ_100 0
                  have c216 := FR_at flσ_100 (c := kR_at) (by decide) 0
                  have c217 := ii_kR_at hσ_99 0
                  have c218 := FR_at flσ_99 (c := kR_at) (by decide) 0
                  have c219 := ii_kR_at hσ_97 0
                  have c220 := FR_at flσ_97 (c := kR_at) (by decide) 0
                  have c221 := ii_kR_at hσ_95 0
                  have c222 := sg_val eσ_95
                  have c223 := ii_kR_opened hσ_100 0
                  have c224 := sg_val eσ_100
                  exact wp_some ⟨hσ_100, frσ_100, nfσ_100, (by (try dsimp only) <;> first | assumption | omega | ((try simp (disch := omega) only [w32_of, w64_of, w8_of]) <;> first | assumption | omega | (split <;> omega) | (refine And.intro ?_ ?_ <;> split <;> omega)) | omega), (by (try dsimp only) <;> first | assumption | omega | ((try simp (disch := omega) only [w32_of, w64_of, w8_of]) <;> first | assumption | omega | (split <;> omega) | (refine And.intro ?_ ?_ <;> split <;> omega)) | omega), (by intro q9; (try dsimp only) <;> first | assumption | omega | ((try simp (disch := omega) only [w32_of, w64_of, w8_of]) <;> first | assumption | omega | (split <;> omega) | (refine And.intro ?_ ?_ <;> split <;> omega)) | omega), (by (try dsimp only) <;> (first | exact fun _ _ => u1 | exact fun q _ => u2 q | exact fun _ z => absurd (z.symm.trans op1) Bool.false_ne_true)), (by (try dsimp only) <;> (first | exact fun _ _ => u3 | exact fun _ z => absurd (z.symm.trans op0).symm Bool.false_ne_true))⟩
                · try simp (disch := omega) only [w32_of, w64_of, w8_of, decide_eq_true_eq, decide_eq_false_iff_not, Bool.not_eq_true] at c207
                  have z6 : 65536 + (x_38 - 1) = 65536 + σ kR_planMany 32 + 1 := by omega
                  have z7 : 65536 + (x_38 - 1) - 1 = 65536 + σ kR_planMany 32 := by omega
                  have z1 : ∀ i, σ_95 kR_plan i = σ_51 kR_plan i := FR_at flσ_95 (c := kR_plan) (by decide)
                  have z3 : σ_95 kR_pointMany 32 = σ_51 kR_pointMany 32 := FR_at flσ_95 (c := kR_pointMany) (by decide) 32
                  have c225 := ii_kR_at hσ_95 0
                  have c226 := sg_val eσ_95
                  have c227 := ii_kR_size hσ_95 0
                  have c228 := FR_at flσ_95 (c := kR_size) (by decide) 0
                  have c229 := FR_at flσ_95 (c := kR_plan) (by decide) (65536 + (x_38 - 1))
                  have c230 := ii_kR_planMany hσ_95 32
                  have c231 := FR_at flσ_95 (c := kR_planMany) (by decide) 32
                  have c232 := ii_kR_planMany hσ_51 32
                  have c233 := FR_at flσ_95 (c := kR_plan) (by decide) (65536 + (x_38 - 1) - 1)
                  refine wp_bd (v_body (σ := σ_95) (kind_0 := x_27) (number_0 := (x_38 - 1)) hσ_95 (by (try dsimp only) <;> first | assumption | omega | ((try simp (disch := omega) only [w32_of, w64_of, w8_of]) <;> first | assumption | omega | (split <;> omega) | (refine And.intro ?_ ?_ <;> split <;> omega)) | omega) (by (try dsimp only) <;> first | assumption | omega | ((try simp (disch := omega) only [w32_of, w64_of, w8_of]) <;> first | assumption | omega | (split <;> omega) | (refine And.intro ?_ ?_ <;> split <;> omega)) | omega) (by (try dsimp only) <;> first | assumption | omega | ((try simp (disch := omega) only [w32_of, w64_of, w8_of]) <;> first | assumption | omega | (split <;> omega) | (refine And.intro ?_ ?_ <;> split <;> omega)) | omega) (by (try dsimp only) <;> first | assumption | omega | ((try simp (disch := omega) only [w32_of, w64_of, w8_of]) <;> first | assumption | omega | (split <;> omega) | (refine And.intro ?_ ?_ <;> split <;> omega)) | omega) (by rw [z6, z1]; exact sn) (by (try dsimp only) <;> first | assumption | omega | ((try simp (disch := omega) only [w32_of, w64_of, w8_of]) <;> first | assumption | omega | (split <;> omega) | (refine And.intro ?_ ?_ <;> split <;> omega)) | omega) (by rw [z7, z1]; exact sk)) ?_
                  rintro ⟨x_103, σ_102⟩ - y234
                  try dsimp only at y234 ⊢
                  obtain ⟨hσ_102, flσ_102, ngσ_102, gb1, gb2, gb3⟩ := y234
                  have frσ_102 : FR [kR_at, kR_faultKind, kR_faultPlace, kR_numberFrom, kR_numberTo, kR_numberWhole, kR_open, kR_openAt, kR_opened, kR_plan, kR_planMany, kR_pointMany, kR_value, kR_xs, kR_ys] σ σ_102 := FR_tr frσ_95 flσ_102 (by decide) (by decide)
                  have nfσ_102 : NF σ σ_102 := NF_tr nfσ_95 ngσ_102
                  have c235 := ii_kR_at hσ_102 0
                  try simp (disch := omega) only [w32_of, w64_of, w8_of] at gb1
                  try simp (disch := omega) only [w32_of, w64_of, w8_of] at gb2
                  try simp (disch := omega) only [w32_of, w64_of, w8_of] at gb3
                  have z4 : σ_102 kR_open 0 = σ kR_open 0 := by rw [FR_at flσ_102 (c := kR_open) (by decide), FR_at flσ_95 (c := kR_open) (by decide)]; exact gc3
                  have z5 : ∀ j, σ_102 kR_openAt j = σ kR_openAt j := fun j => by rw [FR_at flσ_102 (c := kR_openAt) (by decide), FR_at flσ_95 (c := kR_openAt) (by decide)]; exact gc4 j
                  have op0 : nz (σ_102 kR_opened 0) = false := by rw [FR_at flσ_102 (c := kR_opened) (by decide), FR_at flσ_95 (c := kR_opened) (by decide), gc5]; decide
                  have u2 : (x_103 = true) → WSs σ_102 false := fun q => by
                    have g := gb3 q
                    rw [z7] at g
                    obtain ⟨⟨f1, g1⟩, ⟨m1, g2⟩, g3⟩ := g
                    refine WS_unit w1 ho.1 ho.2 z4 z5 ⟨f1, TU_up g1 (Nat.le_refl _) (Nat.zero_le _)⟩ ⟨m1, ?_⟩ (fun i a b => (g3 i a).trans ((z1 i).trans (sp i a b))) (fun q => by rw [g3 _ (wb1 q).2.1, z1]; exact sm q)
                    rw [show σ_102 kR_pointMany 32 - σ kR_pointMany 32 = σ_102 kR_pointMany 32 - σ_95 kR_pointMany 32 by omega]; exact g2
                  have c236 := ii_kR_opened hσ_102 0
                  have c237 := FR_at flσ_102 (c := kR_opened) (by decide) 0
                  have c238 := ii_kR_opened hσ_95 0
                  have c239 := FR_at flσ_95 (c := kR_opened) (by decide) 0
                  have c240 := ii_kR_opened hσ_51 0
                  exact wp_some ⟨hσ_102, frσ_102, nfσ_102, (by (try dsimp only) <;> first | assumption | omega | ((try simp (disch := omega) only [w32_of, w64_of, w8_of]) <;> first | assumption | omega | (split <;> omega) | (refine And.intro ?_ ?_ <;> split <;> omega)) | omega), (by (try dsimp only) <;> first | assumption | omega | ((try simp (disch := omega) only [w32_of, w64_of, w8_of]) <;> first | assumption | omega | (split <;> omega) | (refine And.intro ?_ ?_ <;> split <;> omega)) | omega), (by intro q9; have k9_0 := gb3 q9; have k9_1 := gb3 q9; (try dsimp only) <;> first | assumption | omega | ((try simp (disch := omega) only [w32_of, w64_of, w8_of]) <;> first | assumption | omega | (split <;> omega) | (refine And.intro ?_ ?_ <;> split <;> omega)) | omega), (by (try dsimp only) <;> (first | exact fun _ _ => u1 | exact fun q _ => u2 q | exact fun _ z => absurd (z.symm.trans op1) Bool.false_ne_true)), (by (try dsimp only) <;> (first | exact fun _ _ => u3 | exact fun _ z => absurd (z.symm.trans op0).symm Bool.false_ne_true))⟩
          · try simp (disch := omega) only [w32_of, w64_of, w8_of, decide_eq_true_eq, decide_eq_false_iff_not, Bool.not_eq_true] at c75
            have c244 := ii_kR_opened hσ_35 0
            have c245 := FR_at flσ_35 (c := kR_opened) (by decide) 0
            have c246 := ii_kR_opened hσ_26 0
            have c247 := FR_at flσ_26 (c := kR_opened) (by decide) 0
            have c248 := ii_kR_opened hσ_3 0
            have c249 := FR_at flσ_3 (c := kR_opened) (by decide) 0
            have c250 := ii_kR_opened hσ_1 0
            have c251 := sg_val eσ_1
            exact wp_some ⟨hσ_35, frσ_35, nfσ_35, (by (try dsimp only) <;> first | assumption | omega | ((try simp (disch := omega) only [w32_of, w64_of, w8_of]) <;> first | assumption | omega | (split <;> omega) | (refine And.intro ?_ ?_ <;> split <;> omega)) | omega), (by (try dsimp only) <;> first | assumption | omega | ((try simp (disch := omega) only [w32_of, w64_of, w8_of]) <;> first | assumption | omega | (split <;> omega) | (refine And.intro ?_ ?_ <;> split <;> omega)) | omega), (fun q => (by cases q)), (fun q => (by cases q)), (fun q => (by cases q))⟩
    · have hL := c25
      try simp (disch := omega) only [w32_of, w64_of, w8_of, decide_eq_true_eq, decide_eq_false_iff_not, Bool.not_eq_true, fR_isLetter] at c25
      refine wp_bd (v_strange (σ := σ_3) (word_0 := true) hσ_3) ?_
      rintro ⟨x_126, σ_125⟩ - y253
      try dsimp only at y253 ⊢
      obtain ⟨hσ_125, flσ_125, g252⟩ := y253
      have frσ_125 : FR [kR_at, kR_faultKind, kR_faultPlace, kR_numberFrom, kR_numberTo, kR_numberWhole, kR_open, kR_openAt, kR_opened, kR_plan, kR_planMany, kR_pointMany, kR_value, kR_xs, kR_ys] σ σ_125 := FR_tr frσ_3 flσ_125 (by decide) (by decide)
      have nfσ_125 : NF σ σ_125 := NF_fr nfσ_3 flσ_125 (by decide)
      try simp (disch := omega) only [w32_of, w64_of, w8_of] at g252
      have c254 := ii_kR_at hσ_125 0
      have c255 := FR_at flσ_125 (c := kR_at) (by decide) 0
      have c256 := ii_kR_opened hσ_125 0
      have c257 := FR_at flσ_125 (c := kR_opened) (by decide) 0
      have c258 := ii_kR_opened hσ_3 0
      have c259 := FR_at flσ_3 (c := kR_opened) (by decide) 0
      have c260 := ii_kR_opened hσ_1 0
      have c261 := sg_val eσ_1
      exact wp_some ⟨hσ_125, frσ_125, nfσ_125, (by (try dsimp only) <;> first | assumption | omega | ((try simp (disch := omega) only [w32_of, w64_of, w8_of]) <;> first | assumption | omega | (split <;> omega) | (refine And.intro ?_ ?_ <;> split <;> omega)) | omega), (by (try dsimp only) <;> first | assumption | omega | ((try simp (disch := omega) only [w32_of, w64_of, w8_of]) <;> first | assumption | omega | (split <;> omega) | (refine And.intro ?_ ?_ <;> split <;> omega)) | omega), (fun q => absurd (q.symm.trans g252) (by decide)), (fun q => absurd (q.symm.trans g252) (by decide)), (fun q => absurd (q.symm.trans g252) (by decide))⟩
theorem v_words {σ : SG} (hσ : II σ) : wp_ (fR_words σ) (fun zz_ => II zz_.2 ∧ FR [kR_at, kR_faultKind, kR_faultPlace, kR_numberFrom, kR_numberTo, kR_numberWhole, kR_open, kR_openAt, kR_opened, kR_plan, kR_planMany, kR_pointMany, kR_value, kR_xs, kR_ys] σ zz_.2 ∧ NF σ zz_.2 ∧ ((zz_.1 = true) → SHn zz_.2)) := by
  unfold fR_words
  have hsz := ii_kR_size hσ 0
  refine wp_wfI hσ b_kR_at (by (try dsimp only) <;> first | assumption | omega | ((try simp (disch := omega) only [w32_of, w64_of, w8_of]) <;> first | assumption | omega | (split <;> omega) | (refine And.intro ?_ ?_ <;> split <;> omega)) | omega) (fun σ_1 hσ_1 eσ_1 => ?_)
  try simp (disch := omega) only [w32_of, w64_of, w8_of] at eσ_1
  have flσ_1 := FR_sg eσ_1
  have frσ_1 : FR [kR_at, kR_faultKind, kR_faultPlace, kR_numberFrom, kR_numberTo, kR_numberWhole, kR_open, kR_openAt, kR_opened, kR_plan, kR_planMany, kR_pointMany, kR_value, kR_xs, kR_ys] σ σ_1 := FR_le flσ_1 (by decide)
  have nfσ_1 : NF σ σ_1 := NF_fr (NF_refl _) flσ_1 (by decide)
  refine wp_wfI hσ_1 b_kR_open (by (try dsimp only) <;> first | assumption | omega | ((try simp (disch := omega) only [w32_of, w64_of, w8_of]) <;> first | assumption | omega | (split <;> omega) | (refine And.intro ?_ ?_ <;> split <;> omega)) | omega) (fun σ_2 hσ_2 eσ_2 => ?_)
  try simp (disch := omega) only [w32_of, w64_of, w8_of] at eσ_2
  have flσ_2 := FR_sg eσ_2
  have frσ_2 : FR [kR_at, kR_faultKind, kR_faultPlace, kR_numberFrom, kR_numberTo, kR_numberWhole, kR_open, kR_openAt, kR_opened, kR_plan, kR_planMany, kR_pointMany, kR_value, kR_xs, kR_ys] σ σ_2 := FR_tr frσ_1 flσ_2 (by decide) (by decide)
  have nfσ_2 : NF σ σ_2 := NF_fr nfσ_1 flσ_2 (by decide)
  refine wp_bd (v_clear (σ := σ_2) (slot_0 := 32) hσ_2 (by (try dsimp only) <;> first | assumption | omega | ((try simp (disch := omega) only [w32_of, w64_of, w8_of]) <;> first | assumption | omega | (split <;> omega) | (refine And.intro ?_ ?_ <;> split <;> omega)) | omega)) ?_
  rintro σ_4 - ⟨hσ_4, flσ_4, gc1, gc2, gc3⟩
  have frσ_4 : FR [kR_at, kR_faultKind, kR_faultPlace, kR_numberFrom, kR_numberTo, kR_numberWhole, kR_open, kR_openAt, kR_opened, kR_plan, kR_planMany, kR_pointMany, kR_value, kR_xs, kR_ys] σ σ_4 := FR_tr frσ_2 flσ_4 (by decide) (by decide)
  have nfσ_4 : NF σ σ_4 := NF_tr nfσ_2 (⟨fun i _ => ⟨FR_at flσ_4 (by decide) i, FR_at flσ_4 (by decide) i, FR_at flσ_4 (by decide) i⟩, gc3⟩)
  have c1 := ii_kR_planMany hσ_4 32
  try simp (disch := omega) only [w32_of, w64_of, w8_of] at gc1
  have c2 := ii_kR_pointMany hσ_4 32
  try simp (disch := omega) only [w32_of, w64_of, w8_of] at gc2
  try simp (disch := omega) only [w32_of, w64_of, w8_of] at gc3
  have ws0 : WSs σ_4 true := WS_0 (by rw [FR_at flσ_4 (c := kR_open) (by decide)]; exact sg_val eσ_2) gc1 gc2
  have at4 : σ_4 kR_at 0 = 0 := by rw [FR_at flσ_4 (c := kR_at) (by decide), FR_at flσ_2 (c := kR_at) (by decide)]; exact sg_val eσ_1
  refine wp_bd (P := fun rr_ => II rr_.2.2 ∧ FR [kR_at, kR_faultKind, kR_faultPlace, kR_numberFrom, kR_numberTo, kR_numberWhole, kR_open, kR_openAt, kR_opened, kR_plan, kR_planMany, kR_pointMany, kR_value, kR_xs, kR_ys] σ rr_.2.2 ∧ NF σ rr_.2.2 ∧ (rr_.2.2 kR_at 0 ≤ σ kR_size 0) ∧ (rr_.1 = true → SHn rr_.2.2)) ?_ ?_
  · have c3 := ii_kR_at hσ_4 0
    have c4 := FR_at flσ_4 (c := kR_at) (by decide) 0
    have c5 := ii_kR_at hσ_2 0
    have c6 := FR_at flσ_2 (c := kR_at) (by decide) 0
    have c7 := ii_kR_at hσ_1 0
    have c8 := sg_val eσ_1
    have c9 := ii_kR_size hσ 0
    refine wp_whl (fun ss_ => II ss_.2.2 ∧ FR [kR_at, kR_faultKind, kR_faultPlace, kR_numberFrom, kR_numberTo, kR_numberWhole, kR_open, kR_openAt, kR_opened, kR_plan, kR_planMany, kR_pointMany, kR_value, kR_xs, kR_ys] σ ss_.2.2 ∧ NF σ ss_.2.2 ∧ (ss_.2.2 kR_at 0 ≤ σ kR_size 0) ∧ (ss_.1 = true → ss_.2.1 = true → WSs ss_.2.2 true) ∧ (ss_.1 = true → ss_.2.1 = false → WSs ss_.2.2 false)) (fun ss_ => (2 * (65536 - ss_.2.2 kR_at 0) + bn_ ss_.1).toNat) ⟨hσ_4, frσ_4, nfσ_4, (by (try dsimp only) <;> first | assumption | omega | ((try simp (disch := omega) only [w32_of, w64_of, w8_of]) <;> first | assumption | omega | (split <;> omega) | (refine And.intro ?_ ?_ <;> split <;> omega)) | omega), (by (try dsimp only) <;> (first | exact fun _ _ => ws0 | exact wi1 | exact fun _ _ => wsA | exact fun _ z => absurd z cw0)), (by (try dsimp only) <;> (first | exact fun _ z => absurd z.symm Bool.false_ne_true | exact wi2 | exact fun _ _ => wsB))⟩ ?_
    rintro ⟨good_5, want_6, σ_7⟩ y11
    try dsimp only at y11 ⊢
    obtain ⟨hσ_7, frσ_7, nfσ_7, g10, gw1, gw2⟩ := y11
    have c12 := ii_kR_open hσ_7 0
    have c13 := w32_rng (σ_7 kR_open 0)
    refine wp_if (fun cc => ?_) (fun cc => ?_)
    · try simp (disch := omega) only [w32_of, w64_of, w8_of, decide_eq_true_eq, decide_eq_false_iff_not, Bool.not_eq_true] at cc
      have hgb : bn_ good_5 = 1 := bn_t cc.1
      refine wp_if (fun cw => ?_) (fun cw => ?_)
      · have cw0 := cw
        try simp (disch := omega) only [w32_of, w64_of, w8_of, decide_eq_true_eq, decide_eq_false_iff_not, Bool.not_eq_true] at cw
        have c14 := ii_kR_at hσ_7 0
        have c15 := ii_kR_size hσ_7 0
        have c16 := FR_at frσ_7 (c := kR_size) (by decide) 0
        refine wp_bd (v_beginShape (σ := σ_7) hσ_7 (by (try dsimp only) <;> first | assumption | omega | ((try simp (disch := omega) only [w32_of, w64_of, w8_of]) <;> first | assumption | omega | (split <;> omega) | (refine And.intro ?_ ?_ <;> split <;> omega)) | omega) (gw1 cc.1 cw0)) ?_
        rintro ⟨x_18, σ_17⟩ - y17
        try dsimp only at y17 ⊢
        obtain ⟨hσ_17, flσ_17, ngσ_17, gb1, gb2, gb3, gb4, gb5⟩ := y17
        have frσ_17 : FR [kR_at, kR_faultKind, kR_faultPlace, kR_numberFrom, kR_numberTo, kR_numberWhole, kR_open, kR_openAt, kR_opened, kR_plan, kR_planMany, kR_pointMany, kR_value, kR_xs, kR_ys] σ σ_17 := FR_tr frσ_7 flσ_17 (by decide) (by decide)
        have nfσ_17 : NF σ σ_17 := NF_tr nfσ_7 ngσ_17
        have c18 := ii_kR_at hσ_17 0
        try simp (disch := omega) only [w32_of, w64_of, w8_of] at gb1
        try simp (disch := omega) only [w32_of, w64_of, w8_of] at gb2
        try simp (disch := omega) only [w32_of, w64_of, w8_of] at gb3
        have c19 := ii_kR_opened hσ_17 0
        try simp (disch := omega) only [w32_of, w64_of, w8_of] at gb4
        try simp (disch := omega) only [w32_of, w64_of, w8_of] at gb5
        refine wp_lt (fun x_20 e_x_20 => ?_)
        try simp (disch := omega) only [w32_of, w64_of, w8_of] at e_x_20
        have wi1 : x_18 = true → x_20 = true → WSs σ_17 true := fun q z => gb5 q (of_decide_eq_true (e_x_20.symm.trans z)).2
        have wi2 : x_18 = true → x_20 = false → WSs σ_17 false := fun q z => gb4 q (Bool.eq_false_iff.mpr (fun y => absurd (e_x_20.symm.trans z) (by rw [decide_eq_true ⟨q, y⟩]; decide)))
        have mt18 : (2 * (65536 - σ_17 kR_at 0) + bn_ x_18).toNat < (2 * (65536 - σ_7 kR_at 0) + bn_ good_5).toNat := by
          have h8 := bn_01 x_18
          have a17 := ii_kR_at hσ_17 0
          by_cases hb : x_18 = true
          · have h9 := gb3 hb
            omega
          · rw [bn_f hb]; omega
        exact wp_some (x_inl ⟨⟨hσ_17, frσ_17, nfσ_17, (by (try dsimp only) <;> first | assumption | omega | ((try simp (disch := omega) only [w32_of, w64_of, w8_of]) <;> first | assumption | omega | (split <;> omega) | (refine And.intro ?_ ?_ <;> split <;> omega)) | omega), (by (try dsimp only) <;> (first | exact fun _ _ => ws0 | exact wi1 | exact fun _ _ => wsA | exact fun _ z => absurd z cw0)), (by (try dsimp only) <;> (first | exact fun _ z => absurd z.symm Bool.false_ne_true | exact wi2 | exact fun _ _ => wsB))⟩, (by dsimp only; first | omega | (exact mt18) | (exact mt47))⟩)
      · have cw0 := cw
        try simp (disch := omega) only [w32_of, w64_of, w8_of, decide_eq_true_eq, decide_eq_false_iff_not, Bool.not_eq_true] at cw
        have wo : want_6 = false := Bool.eq_false_iff.mpr cw0
        have wp := gw2 cc.1 wo
        have op : 0 < σ_7 kR_open 0 := by rcases cc.2 with z | z; exact absurd (z.symm.trans wo) (by decide); exact z
        have bo := ii_kR_open hσ_7 0
        have c20 := ii_kR_at hσ_7 0
        have c21 := ii_kR_size hσ_7 0
        have c22 := FR_at frσ_7 (c := kR_size) (by decide) 0
        refine wp_bd (v_skip (σ := σ_7) hσ_7 (by (try dsimp only) <;> first | assumption | omega | ((try simp (disch := omega) only [w32_of, w64_of, w8_of]) <;> first | assumption | omega | (split <;> omega) | (refine And.intro ?_ ?_ <;> split <;> omega)) | omega)) ?_
        rintro σ_25 - ⟨hσ_25, flσ_25, g23, g24⟩
        have frσ_25 : FR [kR_at, kR_faultKind, kR_faultPlace, kR_numberFrom, kR_numberTo, kR_numberWhole, kR_open, kR_openAt, kR_opened, kR_plan, kR_planMany, kR_pointMany, kR_value, kR_xs, kR_ys] σ σ_25 := FR_tr frσ_7 flσ_25 (by decide) (by decide)
        have nfσ_25 : NF σ σ_25 := NF_fr nfσ_7 flσ_25 (by decide)
        have c25 := ii_kR_at hσ_25 0
        try simp (disch := omega) only [w32_of, w64_of, w8_of] at g23
        try simp (disch := omega) only [w32_of, w64_of, w8_of] at g24
        have o25 : σ_25 kR_open 0 = σ_7 kR_open 0 := FR_at flσ_25 (c := kR_open) (by decide) 0
        refine wp_bdk ?_
        refine wp_bd (v_here (σ := σ_25) hσ_25) ?_
        rintro x_31 - ⟨gr, gv, gd⟩
        try simp (disch := omega) only [w32_of, w64_of, w8_of] at gr
        try simp (disch := omega) only [w32_of, w64_of, w8_of] at gv
        have c26 := ii_kR_size hσ_25 0
        have c27 := FR_at flσ_25 (c := kR_size) (by decide) 0
        try simp (disch := omega) only [w32_of, w64_of, w8_of] at gd
        have c29 := w32_rng x_31
        refine wp_if (fun c28 => ?_) (fun c28 => ?_)
        · try simp (disch := omega) only [w32_of, w64_of, w8_of, decide_eq_true_eq, decide_eq_false_iff_not, Bool.not_eq_true] at c28
          refine wp_wfI hσ_25 b_kR_at (by (try dsimp only) <;> first | assumption | omega | ((try simp (disch := omega) only [w32_of, w64_of, w8_of]) <;> first | assumption | omega | (split <;> omega) | (refine And.intro ?_ ?_ <;> split <;> omega)) | omega) (fun σ_33 hσ_33 eσ_33 => ?_)
          try simp (disch := omega) only [w32_of, w64_of, w8_of] at eσ_33
          have flσ_33 := FR_sg eσ_33
          have frσ_33 : FR [kR_at, kR_faultKind, kR_faultPlace, kR_numberFrom, kR_numberTo, kR_numberWhole, kR_open, kR_openAt, kR_opened, kR_plan, kR_planMany, kR_pointMany, kR_value, kR_xs, kR_ys] σ σ_33 := FR_tr frσ_25 flσ_33 (by decide) (by decide)
          have nfσ_33 : NF σ σ_33 := NF_fr nfσ_25 flσ_33 (by decide)
          have wsA : WSs σ_33 true := WS_any (by rw [FR_at flσ_33 (c := kR_open) (by decide)]; omega) (WS_f flσ_33 (by decide) (WS_f flσ_25 (by decide) wp))
          refine wp_somek ?_
          try dsimp only
          have c30 := ii_kR_at hσ_33 0
          have c31 := sg_val eσ_33
          exact wp_some (x_inl ⟨⟨hσ_33, frσ_33, nfσ_33, (by (try dsimp only) <;> first | assumption | omega | ((try simp (disch := omega) only [w32_of, w64_of, w8_of]) <;> first | assumption | omega | (split <;> omega) | (refine And.intro ?_ ?_ <;> split <;> omega)) | omega), (by (try dsimp only) <;> (first | exact fun _ _ => ws0 | exact wi1 | exact fun _ _ => wsA | exact fun _ z => absurd z cw0)), (by (try dsimp only) <;> (first | exact fun _ z => absurd z.symm Bool.false_ne_true | exact wi2 | exact fun _ _ => wsB))⟩, (by dsimp only; first | omega | (exact mt18) | (exact mt47))⟩)
        · try simp (disch := omega) only [w32_of, w64_of, w8_of, decide_eq_true_eq, decide_eq_false_iff_not, Bool.not_eq_true] at c28
          refine wp_bdk ?_
          refine wp_bd (v_here (σ := σ_25) hσ_25) ?_
          rintro x_40 - ⟨gr, gv, gd⟩
          try simp (disch := omega) only [w32_of, w64_of, w8_of] at gr
          try simp (disch := omega) only [w32_of, w64_of, w8_of] at gv
          try simp (disch := omega) only [w32_of, w64_of, w8_of] at gd
          have c33 := w32_rng x_40
          refine wp_if (fun c32 => ?_) (fun c32 => ?_)
          · try simp (disch := omega) only [w32_of, w64_of, w8_of, decide_eq_true_eq, decide_eq_false_iff_not, Bool.not_eq_true] at c32
            refine wp_wfI hσ_25 b_kR_at (by (try dsimp only) <;> first | assumption | omega | ((try simp (disch := omega) only [w32_of, w64_of, w8_of]) <;> first | assumption | omega | (split <;> omega) | (refine And.intro ?_ ?_ <;> split <;> omega)) | omega) (fun σ_42 hσ_42 eσ_42 => ?_)
            try simp (disch := omega) only [w32_of, w64_of, w8_of] at eσ_42
            have flσ_42 := FR_sg eσ_42
            have frσ_42 : FR [kR_at, kR_faultKind, kR_faultPlace, kR_numberFrom, kR_numberTo, kR_numberWhole, kR_open, kR_openAt, kR_opened, kR_plan, kR_planMany, kR_pointMany, kR_value, kR_xs, kR_ys] σ σ_42 := FR_tr frσ_25 flσ_42 (by decide) (by decide)
            have nfσ_42 : NF σ σ_42 := NF_fr nfσ_25 flσ_42 (by decide)
            have c34 := ii_kR_open hσ_42 0
            have c35 := FR_at flσ_42 (c := kR_open) (by decide) 0
            have c36 := ii_kR_open hσ_25 0
            have c37 := FR_at flσ_25 (c := kR_open) (by decide) 0
            refine wp_wfI hσ_42 b_kR_open (by (try dsimp only) <;> first | assumption | omega | ((try simp (disch := omega) only [w32_of, w64_of, w8_of]) <;> first | assumption | omega | (split <;> omega) | (refine And.intro ?_ ?_ <;> split <;> omega)) | omega) (fun σ_43 hσ_43 eσ_43 => ?_)
            try simp (disch := omega) only [w32_of, w64_of, w8_of] at eσ_43
            have flσ_43 := FR_sg eσ_43
            have frσ_43 : FR [kR_at, kR_faultKind, kR_faultPlace, kR_numberFrom, kR_numberTo, kR_numberWhole, kR_open, kR_openAt, kR_opened, kR_plan, kR_planMany, kR_pointMany, kR_value, kR_xs, kR_ys] σ σ_43 := FR_tr frσ_42 flσ_43 (by decide) (by decide)
            have nfσ_43 : NF σ σ_43 := NF_fr nfσ_42 flσ_43 (by decide)
            have o42 : σ_42 kR_open 0 = σ_25 kR_open 0 := FR_at flσ_42 (c := kR_open) (by decide) 0
            have wsB : WSs σ_43 false := WS_close (ii_kR_planMany hσ_42 32).2 (WS_f flσ_42 (by decide) (WS_f flσ_25 (by decide) wp)) (by omega) (by omega) (by rw [sg_val eσ_43]) (FR_at flσ_43 (c := kR_openAt) (by decide)) (FR_at flσ_43 (c := kR_planMany) (by decide) 32) (FR_at flσ_43 (c := kR_pointMany) (by decide) 32) (FR_at flσ_43 (c := kR_plan) (by decide))
            refine wp_somek ?_
            try dsimp only
            refine wp_somek ?_
            try dsimp only
            have c38 := ii_kR_at hσ_43 0
            have c39 := FR_at flσ_43 (c := kR_at) (by decide) 0
            have c40 := ii_kR_at hσ_42 0
            have c41 := sg_val eσ_42
            exact wp_some (x_inl ⟨⟨hσ_43, frσ_43, nfσ_43, (by (try dsimp only) <;> first | assumption | omega | ((try simp (disch := omega) only [w32_of, w64_of, w8_of]) <;> first | assumption | omega | (split <;> omega) | (refine And.intro ?_ ?_ <;> split <;> omega)) | omega), (by (try dsimp only) <;> (first | exact fun _ _ => ws0 | exact wi1 | exact fun _ _ => wsA | exact fun _ z => absurd z cw0)), (by (try dsimp only) <;> (first | exact fun _ z => absurd z.symm Bool.false_ne_true | exact wi2 | exact fun _ _ => wsB))⟩, (by dsimp only; first | omega | (exact mt18) | (exact mt47))⟩)
          · try simp (disch := omega) only [w32_of, w64_of, w8_of, decide_eq_true_eq, decide_eq_false_iff_not, Bool.not_eq_true] at c32
            refine wp_bd (v_strange (σ := σ_25) (word_0 := false) hσ_25) ?_
            rintro ⟨x_47, σ_46⟩ - y42
            try dsimp only at y42 ⊢
            obtain ⟨hσ_46, flσ_46, gs47⟩ := y42
            have frσ_46 : FR [kR_at, kR_faultKind, kR_faultPlace, kR_numberFrom, kR_numberTo, kR_numberWhole, kR_open, kR_openAt, kR_opened, kR_plan, kR_planMany, kR_pointMany, kR_value, kR_xs, kR_ys] σ σ_46 := FR_tr frσ_25 flσ_46 (by decide) (by decide)
            have nfσ_46 : NF σ σ_46 := NF_fr nfσ_25 flσ_46 (by decide)
            try simp (disch := omega) only [w32_of, w64_of, w8_of] at gs47
            have mt47 : (2 * (65536 - σ_46 kR_at 0) + bn_ x_47).toNat < (2 * (65536 - σ_7 kR_at 0) + bn_ good_5).toNat := by
              have a25 := ii_kR_at hσ_46 0
              have a46 : σ_46 kR_at 0 = σ_25 kR_at 0 := FR_at flσ_46 (c := kR_at) (by decide) 0
              rw [show bn_ x_47 = 0 by rw [gs47]; rfl]; omega
            refine wp_somek ?_
            try dsimp only
            refine wp_somek ?_
            try dsimp only
            have c43 := ii_kR_at hσ_46 0
            have c44 := FR_at flσ_46 (c := kR_at) (by decide) 0
            exact wp_some (x_inl ⟨⟨hσ_46, frσ_46, nfσ_46, (by (try dsimp only) <;> first | assumption | omega | ((try simp (disch := omega) only [w32_of, w64_of, w8_of]) <;> first | assumption | omega | (split <;> omega) | (refine And.intro ?_ ?_ <;> split <;> omega)) | omega), (fun q => absurd (q.symm.trans gs47) (by decide)), (fun q => absurd (q.symm.trans gs47) (by decide))⟩, (by dsimp only; first | omega | (exact mt18) | (exact mt47))⟩)
    · try simp (disch := omega) only [w32_of, w64_of, w8_of, decide_eq_true_eq, decide_eq_false_iff_not, Bool.not_eq_true] at cc
      have c45 := ii_kR_at hσ_7 0
      exact wp_some (x_inr ⟨hσ_7, frσ_7, nfσ_7, (by (try dsimp only) <;> first | assumption | omega | ((try simp (disch := omega) only [w32_of, w64_of, w8_of]) <;> first | assumption | omega | (split <;> omega) | (refine And.intro ?_ ?_ <;> split <;> omega)) | omega), (by (try dsimp only) <;> (intro q; have wf : want_6 = false := Bool.eq_false_iff.mpr (fun z => cc ⟨q, Or.inl z⟩); have bo7 := ii_kR_open hσ_7 0; have wz : ¬ 0 < σ_7 kR_open 0 := fun z => cc ⟨q, Or.inr z⟩; exact WS_end (gw2 q wf) (by omega)))⟩)
  rintro ⟨good_68, want_69, σ_70⟩ _ y47
  try dsimp only at y47 ⊢
  obtain ⟨hσ_70, frσ_70, nfσ_70, g46, gS⟩ := y47
  refine wp_if (fun c48 => ?_) (fun c48 => ?_)
  · have k49 := gS c48
    try simp (disch := omega) only [w32_of, w64_of, w8_of] at k49
    try simp (disch := omega) only [w32_of, w64_of, w8_of, decide_eq_true_eq, decide_eq_false_iff_not, Bool.not_eq_true] at c48
    have c50 := ii_kR_at hσ_70 0
    have c51 := ii_kR_size hσ_70 0
    have c52 := FR_at frσ_70 (c := kR_size) (by decide) 0
    have c53 := ii_kR_size hσ 0
    refine wp_bd (v_skip (σ := σ_70) hσ_70 (by (try dsimp only) <;> first | assumption | omega | ((try simp (disch := omega) only [w32_of, w64_of, w8_of]) <;> first | assumption | omega | (split <;> omega) | (refine And.intro ?_ ?_ <;> split <;> omega)) | omega)) ?_
    rintro σ_73 - ⟨hσ_73, flσ_73, g54, g55⟩
    have frσ_73 : FR [kR_at, kR_faultKind, kR_faultPlace, kR_numberFrom, kR_numberTo, kR_numberWhole, kR_open, kR_openAt, kR_opened, kR_plan, kR_planMany, kR_pointMany, kR_value, kR_xs, kR_ys] σ σ_73 := FR_tr frσ_70 flσ_73 (by decide) (by decide)
    have nfσ_73 : NF σ σ_73 := NF_fr nfσ_70 flσ_73 (by decide)
    have c56 := ii_kR_at hσ_73 0
    try simp (disch := omega) only [w32_of, w64_of, w8_of] at g54
    try simp (disch := omega) only [w32_of, w64_of, w8_of] at g55
    refine wp_bdk ?_
    have c58 := w32_rng (σ_73 kR_at 0)
    have c59 := ii_kR_size hσ_73 0
    have c60 := FR_at flσ_73 (c := kR_size) (by decide) 0
    have c61 := w32_rng (σ_73 kR_size 0)
    refine wp_if (fun c57 => ?_) (fun c57 => ?_)
    · try simp (disch := omega) only [w32_of, w64_of, w8_of, decide_eq_true_eq, decide_eq_false_iff_not, Bool.not_eq_true] at c57
      refine wp_somek ?_
      try dsimp only
      exact wp_some ⟨hσ_73, frσ_73, nfσ_73, (by (try dsimp only) <;> (first | exact fun _ => SHn_f flσ_73 (by decide) (gS (by assumption))))⟩
    · try simp (disch := omega) only [w32_of, w64_of, w8_of, decide_eq_true_eq, decide_eq_false_iff_not, Bool.not_eq_true] at c57
      refine wp_bd (v_wrong (σ := σ_73) (kind_0 := 8) (where_0 := (σ_73 kR_at 0)) hσ_73 (by (try dsimp only) <;> first | assumption | omega | ((try simp (disch := omega) only [w32_of, w64_of, w8_of]) <;> first | assumption | omega | (split <;> omega) | (refine And.intro ?_ ?_ <;> split <;> omega)) | omega) (by (try dsimp only) <;> first | assumption | omega | ((try simp (disch := omega) only [w32_of, w64_of, w8_of]) <;> first | assumption | omega | (split <;> omega) | (refine And.intro ?_ ?_ <;> split <;> omega)) | omega)) ?_
      rintro ⟨x_78, σ_77⟩ - y63
      try dsimp only at y63 ⊢
      obtain ⟨hσ_77, flσ_77, g62⟩ := y63
      have frσ_77 : FR [kR_at, kR_faultKind, kR_faultPlace, kR_numberFrom, kR_numberTo, kR_numberWhole, kR_open, kR_openAt, kR_opened, kR_plan, kR_planMany, kR_pointMany, kR_value, kR_xs, kR_ys] σ σ_77 := FR_tr frσ_73 flσ_77 (by decide) (by decide)
      have nfσ_77 : NF σ σ_77 := NF_fr nfσ_73 flσ_77 (by decide)
      try simp (disch := omega) only [w32_of, w64_of, w8_of] at g62
      refine wp_if (fun c64 => ?_) (fun c64 => ?_)
      · exact absurd (c64.symm.trans g62) (by decide)
      · try simp (disch := omega) only [w32_of, w64_of, w8_of, decide_eq_true_eq, decide_eq_false_iff_not, Bool.not_eq_true] at c64
        refine wp_somek ?_
        try dsimp only
        exact wp_some ⟨hσ_77, frσ_77, nfσ_77, (fun q => (by cases q))⟩
  · try simp (disch := omega) only [w32_of, w64_of, w8_of, decide_eq_true_eq, decide_eq_false_iff_not, Bool.not_eq_true] at c48
    exact wp_some ⟨hσ_70, frσ_70, nfσ_70, (fun q => (by cases q))⟩
