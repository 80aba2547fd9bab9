theorem s_A_kind {σ : SG} {this_0 : Nat} (hσ : II σ) (hs_this_0 : isS this_0) : wp_ (fA_kind σ this_0) (fun zz_ => ((0 < σ (kA_plans this_0) 0 ∧ zz_ = σ (kA_plan this_0) 0) ∨ (¬ 0 < σ (kA_plans this_0) 0 ∧ zz_ = 0))) := by
  unfold fA_kind
  refine wp_bdk ?_
  have c2 := iiA_plans (s := this_0) hσ (by first | assumption | decide | omega) 0
  have c3 := w32_rng (σ (kA_plans this_0) 0)
  refine wp_if (fun c1 => ?_) (fun c1 => ?_)
  · try simp (disch := omega) only [w32_of, w64_of, w8_of, decide_eq_true_eq, decide_eq_false_iff_not, Bool.not_eq_true] at c1
    refine wp_rdI (by (try dsimp only) <;> first | assumption | omega | ((try simp (disch := omega) only [w32_of, w64_of, w8_of]) <;> first | assumption | omega | (split <;> omega) | (refine And.intro ?_ ?_ <;> split <;> omega)) | omega) (by (try dsimp only) <;> first | assumption | omega | ((try simp (disch := omega) only [w32_of, w64_of, w8_of]) <;> first | assumption | omega | (split <;> omega) | (refine And.intro ?_ ?_ <;> split <;> omega)) | omega) (fun x_4 e_x_4 => ?_)
    try simp (disch := omega) only [w32_of, w64_of, w8_of] at e_x_4
    refine wp_somek ?_
    try dsimp only
    exact wp_some (by (try dsimp only) <;> first | assumption | omega | ((try simp (disch := omega) only [w32_of, w64_of, w8_of]) <;> first | assumption | omega | (split <;> omega) | (refine And.intro ?_ ?_ <;> split <;> omega)) | omega)
  · try simp (disch := omega) only [w32_of, w64_of, w8_of, decide_eq_true_eq, decide_eq_false_iff_not, Bool.not_eq_true] at c1
    refine wp_somek ?_
    try dsimp only
    exact wp_some (by (try dsimp only) <;> first | assumption | omega | ((try simp (disch := omega) only [w32_of, w64_of, w8_of]) <;> first | assumption | omega | (split <;> omega) | (refine And.intro ?_ ?_ <;> split <;> omega)) | omega)
theorem s_A_behind {σ : SG} {this_0 : Nat} {at_0 : Int} (hσ : II σ) (hs_this_0 : isS this_0) (w0 : ENa σ this_0 at_0) : wp_ (fA_behind σ this_0 at_0) (fun zz_ => (zz_ = at_0 + eL (σ (kA_plan this_0)) at_0)) := by
  unfold fA_behind
  obtain ⟨ho, h0, h1, h2⟩ := id w0
  have hl := eL_2 ho
  have hpl := iiA_plans hσ hs_this_0 0
  have o1 := ho.1
  have o2 := ho.2.1
  have o3 := ho.2.2.1
  refine wp_bdk ?_
  have c1 := w32_rng at_0
  refine wp_rdI (by (try dsimp only) <;> first | assumption | omega | ((try simp (disch := omega) only [w32_of, w64_of, w8_of]) <;> first | assumption | omega | (split <;> omega) | (refine And.intro ?_ ?_ <;> split <;> omega)) | omega) (by (try dsimp only) <;> first | assumption | omega | ((try simp (disch := omega) only [w32_of, w64_of, w8_of]) <;> first | assumption | omega | (split <;> omega) | (refine And.intro ?_ ?_ <;> split <;> omega)) | omega) (fun x_1 e_x_1 => ?_)
  try simp (disch := omega) only [w32_of, w64_of, w8_of] at e_x_1
  have c3 := w32_rng x_1
  refine wp_if (fun c2 => ?_) (fun c2 => ?_)
  · try simp (disch := omega) only [w32_of, w64_of, w8_of, decide_eq_true_eq, decide_eq_false_iff_not, Bool.not_eq_true] at c2
    have c4 := w32_rng (at_0 + 1)
    refine wp_rdI (by (try dsimp only) <;> first | assumption | omega | ((try simp (disch := omega) only [w32_of, w64_of, w8_of]) <;> first | assumption | omega | (split <;> omega) | (refine And.intro ?_ ?_ <;> split <;> omega)) | omega) (by (try dsimp only) <;> first | assumption | omega | ((try simp (disch := omega) only [w32_of, w64_of, w8_of]) <;> first | assumption | omega | (split <;> omega) | (refine And.intro ?_ ?_ <;> split <;> omega)) | omega) (fun x_4 e_x_4 => ?_)
    try simp (disch := omega) only [w32_of, w64_of, w8_of] at e_x_4
    refine wp_somek ?_
    try dsimp only
    exact wp_some (by (try dsimp only) <;> (first | (rw [el_3 (by omega)]; omega) | (rw [el_n (by omega)])))
  · try simp (disch := omega) only [w32_of, w64_of, w8_of, decide_eq_true_eq, decide_eq_false_iff_not, Bool.not_eq_true] at c2
    refine wp_somek ?_
    try dsimp only
    exact wp_some (by (try dsimp only) <;> (first | (rw [el_3 (by omega)]; omega) | (rw [el_n (by omega)])))
theorem s_A_rows {σ : SG} {this_0 : Nat} {at_0 : Int} (hσ : II σ) (hs_this_0 : isS this_0) (w0 : ENa σ this_0 at_0) : wp_ (fA_rows σ this_0 at_0) (fun zz_ => (zz_ = rN (σ (kA_plan this_0)) at_0) ∧ (0 ≤ zz_ ∧ zz_ ≤ 2048)) := by
  unfold fA_rows
  obtain ⟨ho, h0, h1, h2⟩ := id w0
  have hl := eL_2 ho
  have hpl := iiA_plans hσ hs_this_0 0
  have o1 := ho.1
  have o2 := ho.2.1
  have o3 := ho.2.2.1
  have c1 := w32_rng at_0
  refine wp_rdI (by (try dsimp only) <;> first | assumption | omega | ((try simp (disch := omega) only [w32_of, w64_of, w8_of]) <;> first | assumption | omega | (split <;> omega) | (refine And.intro ?_ ?_ <;> split <;> omega)) | omega) (by (try dsimp only) <;> first | assumption | omega | ((try simp (disch := omega) only [w32_of, w64_of, w8_of]) <;> first | assumption | omega | (split <;> omega) | (refine And.intro ?_ ?_ <;> split <;> omega)) | omega) (fun x_1 e_x_1 => ?_)
  try simp (disch := omega) only [w32_of, w64_of, w8_of] at e_x_1
  have c3 := w32_rng x_1
  refine wp_if (fun c2 => ?_) (fun c2 => ?_)
  · try simp (disch := omega) only [w32_of, w64_of, w8_of, decide_eq_true_eq, decide_eq_false_iff_not, Bool.not_eq_true] at c2
    have c4 := w32_rng (at_0 + 1)
    refine wp_rdI (by (try dsimp only) <;> first | assumption | omega | ((try simp (disch := omega) only [w32_of, w64_of, w8_of]) <;> first | assumption | omega | (split <;> omega) | (refine And.intro ?_ ?_ <;> split <;> omega)) | omega) (by (try dsimp only) <;> first | assumption | omega | ((try simp (disch := omega) only [w32_of, w64_of, w8_of]) <;> first | assumption | omega | (split <;> omega) | (refine And.intro ?_ ?_ <;> split <;> omega)) | omega) (fun x_4 e_x_4 => ?_)
    try simp (disch := omega) only [w32_of, w64_of, w8_of] at e_x_4
    exact wp_some ⟨(by (try dsimp only) <;> (unfold rN; first | (rw [if_pos (by omega)]; omega) | (rw [if_neg (by omega), if_pos (by omega)]) | (rw [if_neg (by omega), if_neg (by omega)]))), (by (try dsimp only) <;> first | assumption | omega | ((try simp (disch := omega) only [w32_of, w64_of, w8_of]) <;> first | assumption | omega | (split <;> omega) | (refine And.intro ?_ ?_ <;> split <;> omega)) | omega)⟩
  · try simp (disch := omega) only [w32_of, w64_of, w8_of, decide_eq_true_eq, decide_eq_false_iff_not, Bool.not_eq_true] at c2
    refine wp_bdk ?_
    refine wp_rdI (by (try dsimp only) <;> first | assumption | omega | ((try simp (disch := omega) only [w32_of, w64_of, w8_of]) <;> first | assumption | omega | (split <;> omega) | (refine And.intro ?_ ?_ <;> split <;> omega)) | omega) (by (try dsimp only) <;> first | assumption | omega | ((try simp (disch := omega) only [w32_of, w64_of, w8_of]) <;> first | assumption | omega | (split <;> omega) | (refine And.intro ?_ ?_ <;> split <;> omega)) | omega) (fun x_6 e_x_6 => ?_)
    try simp (disch := omega) only [w32_of, w64_of, w8_of] at e_x_6
    have c6 := w32_rng x_6
    refine wp_if (fun c5 => ?_) (fun c5 => ?_)
    · try simp (disch := omega) only [w32_of, w64_of, w8_of, decide_eq_true_eq, decide_eq_false_iff_not, Bool.not_eq_true] at c5
      refine wp_somek ?_
      try dsimp only
      exact wp_some ⟨(by (try dsimp only) <;> (unfold rN; first | (rw [if_pos (by omega)]; omega) | (rw [if_neg (by omega), if_pos (by omega)]) | (rw [if_neg (by omega), if_neg (by omega)]))), (by (try dsimp only) <;> first | assumption | omega | ((try simp (disch := omega) only [w32_of, w64_of, w8_of]) <;> first | assumption | omega | (split <;> omega) | (refine And.intro ?_ ?_ <;> split <;> omega)) | omega)⟩
    · try simp (disch := omega) only [w32_of, w64_of, w8_of, decide_eq_true_eq, decide_eq_false_iff_not, Bool.not_eq_true] at c5
      refine wp_somek ?_
      try dsimp only
      exact wp_some ⟨(by (try dsimp only) <;> (unfold rN; first | (rw [if_pos (by omega)]; omega) | (rw [if_neg (by omega), if_pos (by omega)]) | (rw [if_neg (by omega), if_neg (by omega)]))), (by (try dsimp only) <;> first | assumption | omega | ((try simp (disch := omega) only [w32_of, w64_of, w8_of]) <;> first | assumption | omega | (split <;> omega) | (refine And.intro ?_ ?_ <;> split <;> omega)) | omega)⟩
theorem s_A_rowLength {σ : SG} {this_0 : Nat} {at_0 : Int} {row_0 : Int} (hσ : II σ) (hs_this_0 : isS this_0) (w0 : ENa σ this_0 at_0) (w1 : 0 ≤ row_0 ∧ row_0 < rN (σ (kA_plan this_0)) at_0) : wp_ (fA_rowLength σ this_0 at_0 row_0) (fun zz_ => (zz_ = rL (σ (kA_plan this_0)) at_0 row_0) ∧ (0 ≤ zz_ ∧ zz_ ≤ 2048)) := by
  unfold fA_rowLength
  obtain ⟨ho, h0, h1, h2⟩ := id w0
  have hl := eL_2 ho
  have hpl := iiA_plans hσ hs_this_0 0
  have o1 := ho.1
  have o2 := ho.2.1
  have o3 := ho.2.2.1
  have hg := rS_go ho w1.1 w1.2
  have hRe := rS_end ho
  refine wp_bdk ?_
  have c1 := w32_rng at_0
  refine wp_rdI (by (try dsimp only) <;> first | assumption | omega | ((try simp (disch := omega) only [w32_of, w64_of, w8_of]) <;> first | assumption | omega | (split <;> omega) | (refine And.intro ?_ ?_ <;> split <;> omega)) | omega) (by (try dsimp only) <;> first | assumption | omega | ((try simp (disch := omega) only [w32_of, w64_of, w8_of]) <;> first | assumption | omega | (split <;> omega) | (refine And.intro ?_ ?_ <;> split <;> omega)) | omega) (fun x_1 e_x_1 => ?_)
  try simp (disch := omega) only [w32_of, w64_of, w8_of] at e_x_1
  have c3 := w32_rng x_1
  refine wp_if (fun c2 => ?_) (fun c2 => ?_)
  · try simp (disch := omega) only [w32_of, w64_of, w8_of, decide_eq_true_eq, decide_eq_false_iff_not, Bool.not_eq_true] at c2
    refine wp_somek ?_
    try dsimp only
    refine wp_bdk ?_
    have c5 := w32_rng ((at_0 + 2) + row_0)
    have c6 := iiA_plans (s := this_0) hσ (by first | assumption | decide | omega) 0
    have c7 := w32_rng (σ (kA_plans this_0) 0)
    refine wp_if (fun c4 => ?_) (fun c4 => ?_)
    · try simp (disch := omega) only [w32_of, w64_of, w8_of, decide_eq_true_eq, decide_eq_false_iff_not, Bool.not_eq_true] at c4
      refine wp_rdI (by (try dsimp only) <;> first | assumption | omega | ((try simp (disch := omega) only [w32_of, w64_of, w8_of]) <;> first | assumption | omega | (split <;> omega) | (refine And.intro ?_ ?_ <;> split <;> omega)) | omega) (by (try dsimp only) <;> first | assumption | omega | ((try simp (disch := omega) only [w32_of, w64_of, w8_of]) <;> first | assumption | omega | (split <;> omega) | (refine And.intro ?_ ?_ <;> split <;> omega)) | omega) (fun x_10 e_x_10 => ?_)
      try simp (disch := omega) only [w32_of, w64_of, w8_of] at e_x_10
      refine wp_somek ?_
      try dsimp only
      exact wp_some ⟨(by (try dsimp only) <;> (unfold rL; first | (rw [if_pos (by omega)]; omega) | (rw [if_neg (by omega)]; omega) | omega)), (by (try dsimp only) <;> (unfold rL at hg; first | (rw [if_pos (by omega)] at hg; omega) | (rw [if_neg (by omega)] at hg; omega) | omega))⟩
    · try simp (disch := omega) only [w32_of, w64_of, w8_of, decide_eq_true_eq, decide_eq_false_iff_not, Bool.not_eq_true] at c4
      refine wp_somek ?_
      try dsimp only
      exact wp_some ⟨(by (try dsimp only) <;> (unfold rL; first | (rw [if_pos (by omega)]; omega) | (rw [if_neg (by omega)]; omega) | omega)), (by (try dsimp only) <;> (unfold rL at hg; first | (rw [if_pos (by omega)] at hg; omega) | (rw [if_neg (by omega)] at hg; omega) | omega))⟩
  · try simp (disch := omega) only [w32_of, w64_of, w8_of, decide_eq_true_eq, decide_eq_false_iff_not, Bool.not_eq_true] at c2
    refine wp_somek ?_
    try dsimp only
    refine wp_bdk ?_
    have c9 := w32_rng (at_0 + 1)
    have c10 := iiA_plans (s := this_0) hσ (by first | assumption | decide | omega) 0
    have c11 := w32_rng (σ (kA_plans this_0) 0)
    refine wp_if (fun c8 => ?_) (fun c8 => ?_)
    · try simp (disch := omega) only [w32_of, w64_of, w8_of, decide_eq_true_eq, decide_eq_false_iff_not, Bool.not_eq_true] at c8
      refine wp_rdI (by (try dsimp only) <;> first | assumption | omega | ((try simp (disch := omega) only [w32_of, w64_of, w8_of]) <;> first | assumption | omega | (split <;> omega) | (refine And.intro ?_ ?_ <;> split <;> omega)) | omega) (by (try dsimp only) <;> first | assumption | omega | ((try simp (disch := omega) only [w32_of, w64_of, w8_of]) <;> first | assumption | omega | (split <;> omega) | (refine And.intro ?_ ?_ <;> split <;> omega)) | omega) (fun x_10 e_x_10 => ?_)
      try simp (disch := omega) only [w32_of, w64_of, w8_of] at e_x_10
      refine wp_somek ?_
      try dsimp only
      exact wp_some ⟨(by (try dsimp only) <;> (unfold rL; first | (rw [if_pos (by omega)]; omega) | (rw [if_neg (by omega)]; omega) | omega)), (by (try dsimp only) <;> (unfold rL at hg; first | (rw [if_pos (by omega)] at hg; omega) | (rw [if_neg (by omega)] at hg; omega) | omega))⟩
    · try simp (disch := omega) only [w32_of, w64_of, w8_of, decide_eq_true_eq, decide_eq_false_iff_not, Bool.not_eq_true] at c8
      refine wp_somek ?_
      try dsimp only
      exact wp_some ⟨(by (try dsimp only) <;> (unfold rL; first | (rw [if_pos (by omega)]; omega) | (rw [if_neg (by omega)]; omega) | omega)), (by (try dsimp only) <;> (unfold rL at hg; first | (rw [if_pos (by omega)] at hg; omega) | (rw [if_neg (by omega)] at hg; omega) | omega))⟩
theorem s_A_pointsAt {σ : SG} {this_0 : Nat} {at_0 : Int} (hσ : II σ) (hs_this_0 : isS this_0) (w0 : ENa σ this_0 at_0) : wp_ (fA_pointsAt σ this_0 at_0) (fun zz_ => (zz_ = eP (σ (kA_plan this_0)) at_0)) := by
  unfold fA_pointsAt
  obtain ⟨ho, h0, h1, h2⟩ := id w0
  have hl := eL_2 ho
  have hpl := iiA_plans hσ hs_this_0 0
  have o1 := ho.1
  have o2 := ho.2.1
  have o3 := ho.2.2.1
  have hRe := rS_end ho
  refine wp_bd (P := fun rr_ => (0 ≤ rr_.2 ∧ rr_.2 ≤ 2147483647) ∧ (rr_.1 = eP (σ (kA_plan this_0)) at_0)) ?_ ?_
  · refine wp_whl (fun ss_ => (0 ≤ ss_.2 ∧ ss_.2 ≤ rN (σ (kA_plan this_0)) at_0) ∧ (ss_.1 = rS (σ (kA_plan this_0)) at_0 ss_.2)) (fun ss_ => (rN (σ (kA_plan this_0)) at_0 - ss_.2).toNat) ⟨(by (try dsimp only) <;> first | assumption | omega | ((try simp (disch := omega) only [w32_of, w64_of, w8_of]) <;> first | assumption | omega | (split <;> omega) | (refine And.intro ?_ ?_ <;> split <;> omega)) | omega), (by (try dsimp only) <;> (first | (rw [rS_0]) | omega))⟩ ?_
    rintro ⟨total_1, row_2⟩ y3
    try dsimp only at y3 ⊢
    obtain ⟨g1, g2⟩ := y3
    refine wp_bd (s_A_rows (σ := σ) (this_0 := this_0) (at_0 := at_0) hσ (by first | assumption | decide | omega) w0) ?_
    rintro x_11 - ⟨g4, g5⟩
    try simp (disch := omega) only [w32_of, w64_of, w8_of] at g4
    try simp (disch := omega) only [w32_of, w64_of, w8_of] at g5
    have c7 := w32_rng row_2
    have c8 := w32_rng x_11
    refine wp_if (fun c6 => ?_) (fun c6 => ?_)
    · try simp (disch := omega) only [w32_of, w64_of, w8_of, decide_eq_true_eq, decide_eq_false_iff_not, Bool.not_eq_true] at c6
      refine wp_bd (s_A_rowLength (σ := σ) (this_0 := this_0) (at_0 := at_0) (row_0 := row_2) hσ (by first | assumption | decide | omega) w0 (by (try dsimp only) <;> first | assumption | omega | ((try simp (disch := omega) only [w32_of, w64_of, w8_of]) <;> first | assumption | omega | (split <;> omega) | (refine And.intro ?_ ?_ <;> split <;> omega)) | omega)) ?_
      rintro x_14 - ⟨g9, g10⟩
      try simp (disch := omega) only [w32_of, w64_of, w8_of] at g9
      try simp (disch := omega) only [w32_of, w64_of, w8_of] at g10
      have hg := rS_go ho (show 0 ≤ row_2 by omega) (by omega)
      exact wp_some (x_inl ⟨⟨(by (try dsimp only) <;> first | assumption | omega | ((try simp (disch := omega) only [w32_of, w64_of, w8_of]) <;> first | assumption | omega | (split <;> omega) | (refine And.intro ?_ ?_ <;> split <;> omega)) | omega), (by (try dsimp only) <;> (first | (rw [rS_0]) | omega))⟩, (by (try dsimp only) <;> first | assumption | omega | ((try simp (disch := omega) only [w32_of, w64_of, w8_of]) <;> first | assumption | omega | (split <;> omega) | (refine And.intro ?_ ?_ <;> split <;> omega)) | omega)⟩)
    · try simp (disch := omega) only [w32_of, w64_of, w8_of, decide_eq_true_eq, decide_eq_false_iff_not, Bool.not_eq_true] at c6
      exact wp_some (x_inr ⟨(by (try dsimp only) <;> first | assumption | omega | ((try simp (disch := omega) only [w32_of, w64_of, w8_of]) <;> first | assumption | omega | (split <;> omega) | (refine And.intro ?_ ?_ <;> split <;> omega)) | omega), (by (try dsimp only) <;> (first | (rw [← hRe.1, show rN (σ (kA_plan this_0)) at_0 = row_2 by omega]; assumption) | (rw [← hRe.1]; congr 1; omega) | omega))⟩)
  rintro ⟨total_17, row_18⟩ _ y13
  try dsimp only at y13 ⊢
  obtain ⟨g11, g12⟩ := y13
  exact wp_some (by (try dsimp only) <;> first | assumption | omega | ((try simp (disch := omega) only [w32_of, w64_of, w8_of]) <;> first | assumption | omega | (split <;> omega) | (refine And.intro ?_ ?_ <;> split <;> omega)) | omega)
theorem s_A_areLike {σ : SG} {this_0 : Nat} {i_0 : Int} {j_0 : Int} (hσ : II σ) (hs_this_0 : isS this_0) (w0 : 0 ≤ i_0 ∧ i_0 ≤ 2047) (w1 : 0 ≤ j_0 ∧ j_0 ≤ 2047) : wp_ (fA_areLike σ this_0 i_0 j_0) (fun zz_ => ((zz_ = true) ↔ (σ (kA_x this_0) i_0 = σ (kA_x this_0) j_0 ∧ σ (kA_y this_0) i_0 = σ (kA_y this_0) j_0))) := by
  unfold fA_areLike
  refine wp_bdk ?_
  have c1 := w32_rng i_0
  refine wp_rdI (by (try dsimp only) <;> first | assumption | omega | ((try simp (disch := omega) only [w32_of, w64_of, w8_of]) <;> first | assumption | omega | (split <;> omega) | (refine And.intro ?_ ?_ <;> split <;> omega)) | omega) (by (try dsimp only) <;> first | assumption | omega | ((try simp (disch := omega) only [w32_of, w64_of, w8_of]) <;> first | assumption | omega | (split <;> omega) | (refine And.intro ?_ ?_ <;> split <;> omega)) | omega) (fun x_1 e_x_1 => ?_)
  have b_x_1 : (-1000000000) ≤ x_1 ∧ x_1 ≤ 1000000000 := by rw [e_x_1]; exact iiA_x (s := this_0) hσ (by first | assumption | decide | omega) _
  try simp (disch := omega) only [w32_of, w64_of, w8_of] at e_x_1
  have c2 := iiA_x (s := this_0) hσ (by first | assumption | decide | omega) i_0
  have c3 := w32_rng j_0
  refine wp_rdI (by (try dsimp only) <;> first | assumption | omega | ((try simp (disch := omega) only [w32_of, w64_of, w8_of]) <;> first | assumption | omega | (split <;> omega) | (refine And.intro ?_ ?_ <;> split <;> omega)) | omega) (by (try dsimp only) <;> first | assumption | omega | ((try simp (disch := omega) only [w32_of, w64_of, w8_of]) <;> first | assumption | omega | (split <;> omega) | (refine And.intro ?_ ?_ <;> split <;> omega)) | omega) (fun x_3 e_x_3 => ?_)
  have b_x_3 : (-1000000000) ≤ x_3 ∧ x_3 ≤ 1000000000 := by rw [e_x_3]; exact iiA_x (s := this_0) hσ (by first | assumption | decide | omega) _
  try simp (disch := omega) only [w32_of, w64_of, w8_of] at e_x_3
  have c4 := iiA_x (s := this_0) hσ (by first | assumption | decide | omega) j_0
  have c6 := w32_rng x_1
  have c7 := w32_rng x_3
  refine wp_if (fun c5 => ?_) (fun c5 => ?_)
  · try simp (disch := omega) only [w32_of, w64_of, w8_of, decide_eq_true_eq, decide_eq_false_iff_not, Bool.not_eq_true] at c5
    refine wp_rdI (by (try dsimp only) <;> first | assumption | omega | ((try simp (disch := omega) only [w32_of, w64_of, w8_of]) <;> first | assumption | omega | (split <;> omega) | (refine And.intro ?_ ?_ <;> split <;> omega)) | omega) (by (try dsimp only) <;> first | assumption | omega | ((try simp (disch := omega) only [w32_of, w64_of, w8_of]) <;> first | assumption | omega | (split <;> omega) | (refine And.intro ?_ ?_ <;> split <;> omega)) | omega) (fun x_6 e_x_6 => ?_)
    have b_x_6 : (-1000000000) ≤ x_6 ∧ x_6 ≤ 1000000000 := by rw [e_x_6]; exact iiA_y (s := this_0) hσ (by first | assumption | decide | omega) _
    try simp (disch := omega) only [w32_of, w64_of, w8_of] at e_x_6
    have c8 := iiA_y (s := this_0) hσ (by first | assumption | decide | omega) i_0
    refine wp_rdI (by (try dsimp only) <;> first | assumption | omega | ((try simp (disch := omega) only [w32_of, w64_of, w8_of]) <;> first | assumption | omega | (split <;> omega) | (refine And.intro ?_ ?_ <;> split <;> omega)) | omega) (by (try dsimp only) <;> first | assumption | omega | ((try simp (disch := omega) only [w32_of, w64_of, w8_of]) <;> first | assumption | omega | (split <;> omega) | (refine And.intro ?_ ?_ <;> split <;> omega)) | omega) (fun x_8 e_x_8 => ?_)
    have b_x_8 : (-1000000000) ≤ x_8 ∧ x_8 ≤ 1000000000 := by rw [e_x_8]; exact iiA_y (s := this_0) hσ (by first | assumption | decide | omega) _
    try simp (disch := omega) only [w32_of, w64_of, w8_of] at e_x_8
    have c9 := iiA_y (s := this_0) hσ (by first | assumption | decide | omega) j_0
    have c11 := w32_rng x_6
    have c12 := w32_rng x_8
    refine wp_if (fun c10 => ?_) (fun c10 => ?_)
    · try simp (disch := omega) only [w32_of, w64_of, w8_of, decide_eq_true_eq, decide_eq_false_iff_not, Bool.not_eq_true] at c10
      refine wp_somek ?_
      try dsimp only
      exact wp_some ⟨fun _ => (by (try dsimp only) <;> first | assumption | omega | ((try simp (disch := omega) only [w32_of, w64_of, w8_of]) <;> first | assumption | omega | (split <;> omega) | (refine And.intro ?_ ?_ <;> split <;> omega)) | omega), fun _ => rfl⟩
    · try simp (disch := omega) only [w32_of, w64_of, w8_of, decide_eq_true_eq, decide_eq_false_iff_not, Bool.not_eq_true] at c10
      refine wp_somek ?_
      try dsimp only
      exact wp_some ⟨fun q => (by cases q), fun q => absurd q (by (try dsimp only) <;> first | assumption | omega | ((try simp (disch := omega) only [w32_of, w64_of, w8_of]) <;> first | assumption | omega | (split <;> omega) | (refine And.intro ?_ ?_ <;> split <;> omega)) | omega)⟩
  · try simp (disch := omega) only [w32_of, w64_of, w8_of, decide_eq_true_eq, decide_eq_false_iff_not, Bool.not_eq_true] at c5
    refine wp_somek ?_
    try dsimp only
    have c13 := iiA_y (s := this_0) hσ (by first | assumption | decide | omega) i_0
    have c14 := iiA_y (s := this_0) hσ (by first | assumption | decide | omega) j_0
    exact wp_some ⟨fun q => (by cases q), fun q => absurd q (by (try dsimp only) <;> first | assumption | omega | ((try simp (disch := omega) only [w32_of, w64_of, w8_of]) <;> first | assumption | omega | (split <;> omega) | (refine And.intro ?_ ?_ <;> split <;> omega)) | omega)⟩
theorem s_A_isAt {σ : SG} {this_0 : Nat} {i_0 : Int} {px_0 : Int} {py_0 : Int} (hσ : II σ) (hs_this_0 : isS this_0) (w0 : 0 ≤ i_0 ∧ i_0 ≤ 2047) : wp_ (fA_isAt σ this_0 i_0 px_0 py_0) (fun zz_ => ((zz_ = true) ↔ (σ (kA_x this_0) i_0 = w32 px_0 ∧ σ (kA_y this_0) i_0 = w32 py_0))) := by
  unfold fA_isAt
  refine wp_bdk ?_
  have c1 := w32_rng i_0
  refine wp_rdI (by (try dsimp only) <;> first | assumption | omega | ((try simp (disch := omega) only [w32_of, w64_of, w8_of]) <;> first | assumption | omega | (split <;> omega) | (refine And.intro ?_ ?_ <;> split <;> omega)) | omega) (by (try dsimp only) <;> first | assumption | omega | ((try simp (disch := omega) only [w32_of, w64_of, w8_of]) <;> first | assumption | omega | (split <;> omega) | (refine And.intro ?_ ?_ <;> split <;> omega)) | omega) (fun x_1 e_x_1 => ?_)
  have b_x_1 : (-1000000000) ≤ x_1 ∧ x_1 ≤ 1000000000 := by rw [e_x_1]; exact iiA_x (s := this_0) hσ (by first | assumption | decide | omega) _
  try simp (disch := omega) only [w32_of, w64_of, w8_of] at e_x_1
  have c2 := iiA_x (s := this_0) hσ (by first | assumption | decide | omega) i_0
  have c4 := w32_rng x_1
  have c5 := w32_rng px_0
  refine wp_if (fun c3 => ?_) (fun c3 => ?_)
  · try simp (disch := omega) only [w32_of, w64_of, w8_of, decide_eq_true_eq, decide_eq_false_iff_not, Bool.not_eq_true] at c3
    refine wp_rdI (by (try dsimp only) <;> first | assumption | omega | ((try simp (disch := omega) only [w32_of, w64_of, w8_of]) <;> first | assumption | omega | (split <;> omega) | (refine And.intro ?_ ?_ <;> split <;> omega)) | omega) (by (try dsimp only) <;> first | assumption | omega | ((try simp (disch := omega) only [w32_of, w64_of, w8_of]) <;> first | assumption | omega | (split <;> omega) | (refine And.intro ?_ ?_ <;> split <;> omega)) | omega) (fun x_4 e_x_4 => ?_)
    have b_x_4 : (-1000000000) ≤ x_4 ∧ x_4 ≤ 1000000000 := by rw [e_x_4]; exact iiA_y (s := this_0) hσ (by first | assumption | decide | omega) _
    try simp (disch := omega) only [w32_of, w64_of, w8_of] at e_x_4
    have c6 := iiA_y (s := this_0) hσ (by first | assumption | decide | omega) i_0
    have c8 := w32_rng x_4
    have c9 := w32_rng py_0
    refine wp_if (fun c7 => ?_) (fun c7 => ?_)
    · try simp (disch := omega) only [w32_of, w64_of, w8_of, decide_eq_true_eq, decide_eq_false_iff_not, Bool.not_eq_true] at c7
      refine wp_somek ?_
      try dsimp only
      exact wp_some ⟨fun _ => (by (try dsimp only) <;> first | assumption | omega | ((try simp (disch := omega) only [w32_of, w64_of, w8_of]) <;> first | assumption | omega | (split <;> omega) | (refine And.intro ?_ ?_ <;> split <;> omega)) | omega), fun _ => rfl⟩
    · try simp (disch := omega) only [w32_of, w64_of, w8_of, decide_eq_true_eq, decide_eq_false_iff_not, Bool.not_eq_true] at c7
      refine wp_somek ?_
      try dsimp only
      exact wp_some ⟨fun q => (by cases q), fun q => absurd q (by (try dsimp only) <;> first | assumption | omega | ((try simp (disch := omega) only [w32_of, w64_of, w8_of]) <;> first | assumption | omega | (split <;> omega) | (refine And.intro ?_ ?_ <;> split <;> omega)) | omega)⟩
  · try simp (disch := omega) only [w32_of, w64_of, w8_of, decide_eq_true_eq, decide_eq_false_iff_not, Bool.not_eq_true] at c3
    refine wp_somek ?_
    try dsimp only
    have c10 := iiA_y (s := this_0) hσ (by first | assumption | decide | omega) i_0
    exact wp_some ⟨fun q => (by cases q), fun q => absurd q (by (try dsimp only) <;> first | assumption | omega | ((try simp (disch := omega) only [w32_of, w64_of, w8_of]) <;> first | assumption | omega | (split <;> omega) | (refine And.intro ?_ ?_ <;> split <;> omega)) | omega)⟩
theorem s_A_isClosed {σ : SG} {this_0 : Nat} {from_0 : Int} {length_0 : Int} (hσ : II σ) (hs_this_0 : isS this_0) (w0 : 0 ≤ from_0) (w1 : 0 ≤ length_0 ∧ from_0 + length_0 ≤ 2048) : wp_ (fA_isClosed σ this_0 from_0 length_0) (fun zz_ => ((zz_ = true) ↔ (0 < length_0 ∧ σ (kA_x this_0) from_0 = σ (kA_x this_0) (from_0 + length_0 - 1) ∧ σ (kA_y this_0) from_0 = σ (kA_y this_0) (from_0 + length_0 - 1)))) := by
  unfold fA_isClosed
  refine wp_bdk ?_
  have c2 := w32_rng length_0
  refine wp_if (fun c1 => ?_) (fun c1 => ?_)
  · try simp (disch := omega) only [w32_of, w64_of, w8_of, decide_eq_true_eq, decide_eq_false_iff_not, Bool.not_eq_true] at c1
    refine wp_bd (s_A_areLike (σ := σ) (this_0 := this_0) (i_0 := from_0) (j_0 := ((from_0 + length_0) - 1)) hσ (by first | assumption | decide | omega) (by (try dsimp only) <;> first | assumption | omega | ((try simp (disch := omega) only [w32_of, w64_of, w8_of]) <;> first | assumption | omega | (split <;> omega) | (refine And.intro ?_ ?_ <;> split <;> omega)) | omega) (by (try dsimp only) <;> first | assumption | omega | ((try simp (disch := omega) only [w32_of, w64_of, w8_of]) <;> first | assumption | omega | (split <;> omega) | (refine And.intro ?_ ?_ <;> split <;> omega)) | omega)) ?_
    rintro x_3 - hal
    have c3 := iiA_x (s := this_0) hσ (by first | assumption | decide | omega) from_0
    have c4 := iiA_x (s := this_0) hσ (by first | assumption | decide | omega) ((from_0 + length_0) - 1)
    have c5 := iiA_y (s := this_0) hσ (by first | assumption | decide | omega) from_0
    have c6 := iiA_y (s := this_0) hσ (by first | assumption | decide | omega) ((from_0 + length_0) - 1)
    try simp (disch := omega) only [w32_of, w64_of, w8_of] at hal
    refine wp_if (fun c7 => ?_) (fun c7 => ?_)
    · have k8 := hal.mp c7
      try simp (disch := omega) only [w32_of, w64_of, w8_of] at k8
      try simp (disch := omega) only [w32_of, w64_of, w8_of, decide_eq_true_eq, decide_eq_false_iff_not, Bool.not_eq_true] at c7
      refine wp_somek ?_
      try dsimp only
      have c9 := iiA_x (s := this_0) hσ (by first | assumption | decide | omega) (from_0 + length_0 - 1)
      have c10 := iiA_y (s := this_0) hσ (by first | assumption | decide | omega) (from_0 + length_0 - 1)
      exact wp_some (by (try dsimp only) <;> (first | (constructor <;> intro q9 <;> first | rfl | exact absurd q9 (by decide) | omega | exact absurd (hal.mpr q9.2) (by assumption) | exact absurd (hal.mpr q9.2) (by rw [(by assumption : x_3 = false)]; decide))))
    · have k11 := fun q => c7 (hal.mpr q)
      try simp (disch := omega) only [w32_of, w64_of, w8_of] at k11
      try simp (disch := omega) only [w32_of, w64_of, w8_of, decide_eq_true_eq, decide_eq_false_iff_not, Bool.not_eq_true] at c7
      refine wp_somek ?_
      try dsimp only
      have c12 := iiA_x (s := this_0) hσ (by first | assumption | decide | omega) (from_0 + length_0 - 1)
      have c13 := iiA_y (s := this_0) hσ (by first | assumption | decide | omega) (from_0 + length_0 - 1)
      exact wp_some (by (try dsimp only) <;> (first | (constructor <;> intro q9 <;> first | rfl | exact absurd q9 (by decide) | omega | exact absurd (hal.mpr q9.2) (by assumption) | exact absurd (hal.mpr q9.2) (by rw [(by assumption : x_3 = false)]; decide))))
  · try simp (disch := omega) only [w32_of, w64_of, w8_of, decide_eq_true_eq, decide_eq_false_iff_not, Bool.not_eq_true] at c1
    refine wp_somek ?_
    try dsimp only
    have c14 := iiA_x (s := this_0) hσ (by first | assumption | decide | omega) from_0
    have c15 := iiA_x (s := this_0) hσ (by first | assumption | decide | omega) (from_0 + length_0 - 1)
    have c16 := iiA_y (s := this_0) hσ (by first | assumption | decide | omega) from_0
    have c17 := iiA_y (s := this_0) hσ (by first | assumption | decide | omega) (from_0 + length_0 - 1)
    exact wp_some (by (try dsimp only) <;> (first | (constructor <;> intro q9 <;> first | rfl | exact absurd q9 (by decide) | omega | exact absurd (hal.mpr q9.2) (by assumption) | exact absurd (hal.mpr q9.2) (by rw [(by assumption : x_3 = false)]; decide))))
theorem s_A_liesWithin {σ : SG} {this_0 : Nat} {limit_0 : Int} (hσ : II σ) (hs_this_0 : isS this_0) (w0 : limit_0 = 500000000) : wp_ (fA_liesWithin σ this_0 limit_0) (fun zz_ => ((zz_ = true) → (∀ k, 0 ≤ k → k < σ (kA_points this_0) 0 → (-500000000 ≤ σ (kA_x this_0) k ∧ σ (kA_x this_0) k ≤ 500000000) ∧ (-500000000 ≤ σ (kA_y this_0) k ∧ σ (kA_y this_0) k ≤ 500000000)))) := by
  unfold fA_liesWithin
  refine wp_bx (P := fun rr_ => (0 ≤ rr_ ∧ rr_ ≤ 2048) ∧ (σ (kA_points this_0) 0 ≤ rr_) ∧ (∀ k, 0 ≤ k → k < rr_ → (-500000000 ≤ σ (kA_x this_0) k ∧ σ (kA_x this_0) k ≤ 500000000) ∧ (-500000000 ≤ σ (kA_y this_0) k ∧ σ (kA_y this_0) k ≤ 500000000))) ?_ ?_
  · refine wp_whl (fun ss_ => (0 ≤ ss_ ∧ ss_ ≤ 2048) ∧ (∀ k, 0 ≤ k → k < ss_ → (-500000000 ≤ σ (kA_x this_0) k ∧ σ (kA_x this_0) k ≤ 500000000) ∧ (-500000000 ≤ σ (kA_y this_0) k ∧ σ (kA_y this_0) k ≤ 500000000))) (fun ss_ => (2049 - ss_).toNat) ⟨(by (try dsimp only) <;> first | assumption | omega | ((try simp (disch := omega) only [w32_of, w64_of, w8_of]) <;> first | assumption | omega | (split <;> omega) | (refine And.intro ?_ ?_ <;> split <;> omega)) | omega), (by (try dsimp only) <;> (first | (intro k a b; omega) | (intro k a b; by_cases z : k = i_1 <;> first | (rw [z]; omega) | exact gk k a (by omega))))⟩ ?_
    rintro i_1 ⟨g1, gk⟩
    have c3 := w32_rng i_1
    have c4 := iiA_points (s := this_0) hσ (by first | assumption | decide | omega) 0
    have c5 := w32_rng (σ (kA_points this_0) 0)
    refine wp_if (fun c2 => ?_) (fun c2 => ?_)
    · try simp (disch := omega) only [w32_of, w64_of, w8_of, decide_eq_true_eq, decide_eq_false_iff_not, Bool.not_eq_true] at c2
      refine wp_rdI (by (try dsimp only) <;> first | assumption | omega | ((try simp (disch := omega) only [w32_of, w64_of, w8_of]) <;> first | assumption | omega | (split <;> omega) | (refine And.intro ?_ ?_ <;> split <;> omega)) | omega) (by (try dsimp only) <;> first | assumption | omega | ((try simp (disch := omega) only [w32_of, w64_of, w8_of]) <;> first | assumption | omega | (split <;> omega) | (refine And.intro ?_ ?_ <;> split <;> omega)) | omega) (fun x_19 e_x_19 => ?_)
      have b_x_19 : (-1000000000) ≤ x_19 ∧ x_19 ≤ 1000000000 := by rw [e_x_19]; exact iiA_x (s := this_0) hσ (by first | assumption | decide | omega) _
      try simp (disch := omega) only [w32_of, w64_of, w8_of] at e_x_19
      have c6 := iiA_x (s := this_0) hσ (by first | assumption | decide | omega) i_1
      refine wp_if (fun c7 => ?_) (fun c7 => ?_)
      · try simp (disch := omega) only [w32_of, w64_of, w8_of, decide_eq_true_eq, decide_eq_false_iff_not, Bool.not_eq_true, fQ_isBeyond] at c7
        exact wp_some (x_inr (x_inr (fun q => (by cases q))))
      · try simp (disch := omega) only [w32_of, w64_of, w8_of, decide_eq_true_eq, decide_eq_false_iff_not, Bool.not_eq_true, fQ_isBeyond] at c7
        refine wp_rdI (by (try dsimp only) <;> first | assumption | omega | ((try simp (disch := omega) only [w32_of, w64_of, w8_of]) <;> first | assumption | omega | (split <;> omega) | (refine And.intro ?_ ?_ <;> split <;> omega)) | omega) (by (try dsimp only) <;> first | assumption | omega | ((try simp (disch := omega) only [w32_of, w64_of, w8_of]) <;> first | assumption | omega | (split <;> omega) | (refine And.intro ?_ ?_ <;> split <;> omega)) | omega) (fun x_22 e_x_22 => ?_)
        have b_x_22 : (-1000000000) ≤ x_22 ∧ x_22 ≤ 1000000000 := by rw [e_x_22]; exact iiA_y (s := this_0) hσ (by first | assumption | decide | omega) _
        try simp (disch := omega) only [w32_of, w64_of, w8_of] at e_x_22
        have c8 := iiA_y (s := this_0) hσ (by first | assumption | decide | omega) i_1
        refine wp_if (fun c9 => ?_) (fun c9 => ?_)
        · try simp (disch := omega) only [w32_of, w64_of, w8_of, decide_eq_true_eq, decide_eq_false_iff_not, Bool.not_eq_true, fQ_isBeyond] at c9
          exact wp_some (x_inr (x_inr (fun q => (by cases q))))
        · try simp (disch := omega) only [w32_of, w64_of, w8_of, decide_eq_true_eq, decide_eq_false_iff_not, Bool.not_eq_true, fQ_isBeyond] at c9
          exact wp_some (x_inl ⟨⟨(by (try dsimp only) <;> first | assumption | omega | ((try simp (disch := omega) only [w32_of, w64_of, w8_of]) <;> first | assumption | omega | (split <;> omega) | (refine And.intro ?_ ?_ <;> split <;> omega)) | omega), (by (try dsimp only) <;> (first | (intro k a b; omega) | (intro k a b; by_cases z : k = i_1 <;> first | (rw [z]; omega) | exact gk k a (by omega))))⟩, (by (try dsimp only) <;> first | assumption | omega | ((try simp (disch := omega) only [w32_of, w64_of, w8_of]) <;> first | assumption | omega | (split <;> omega) | (refine And.intro ?_ ?_ <;> split <;> omega)) | omega)⟩)
    · try simp (disch := omega) only [w32_of, w64_of, w8_of, decide_eq_true_eq, decide_eq_false_iff_not, Bool.not_eq_true] at c2
      exact wp_some (x_inr (x_inl ⟨(by (try dsimp only) <;> first | assumption | omega | ((try simp (disch := omega) only [w32_of, w64_of, w8_of]) <;> first | assumption | omega | (split <;> omega) | (refine And.intro ?_ ?_ <;> split <;> omega)) | omega), (by (try dsimp only) <;> first | assumption | omega | ((try simp (disch := omega) only [w32_of, w64_of, w8_of]) <;> first | assumption | omega | (split <;> omega) | (refine And.intro ?_ ?_ <;> split <;> omega)) | omega), (by (try dsimp only) <;> (exact gk))⟩))
  rintro i_27 ⟨g10, g11, gk⟩
  have c12 := iiA_points (s := this_0) hσ (by first | assumption | decide | omega) 0
  exact wp_some (by (try dsimp only) <;> (intro _ k a b; exact gk k a (by omega)))
theorem s_A_twiceAround {σ : SG} {this_0 : Nat} {from_0 : Int} {length_0 : Int} (hσ : II σ) (hs_this_0 : isS this_0) (w0 : 0 ≤ from_0) (w1 : 0 ≤ length_0 ∧ from_0 + length_0 ≤ 2048) : wp_ (fA_twiceAround σ this_0 from_0 length_0) (fun zz_ => True) := by
  unfold fA_twiceAround
  refine wp_bd (P := fun rr_ => (0 ≤ rr_.2 ∧ rr_.2 ≤ 2147483647) ∧ (True)) ?_ ?_
  · refine wp_whl (fun ss_ => (0 ≤ ss_.2 ∧ ss_.2 ≤ length_0)) (fun ss_ => (length_0 - ss_.2).toNat) (by (try dsimp only) <;> first | assumption | omega | ((try simp (disch := omega) only [w32_of, w64_of, w8_of]) <;> first | assumption | omega | (split <;> omega) | (refine And.intro ?_ ?_ <;> split <;> omega)) | omega) ?_
    rintro ⟨total_1, i_2⟩ y2
    try dsimp only at y2 ⊢
    have g1 := y2
    have c4 := w32_rng i_2
    have c5 := w32_rng length_0
    refine wp_if (fun c3 => ?_) (fun c3 => ?_)
    · try simp (disch := omega) only [w32_of, w64_of, w8_of, decide_eq_true_eq, decide_eq_false_iff_not, Bool.not_eq_true] at c3
      have c6 := w32_rng (i_2 + 1)
      refine wp_lt (fun x_12 e_x_12 => ?_)
      try simp (disch := omega) only [w32_of, w64_of, w8_of] at e_x_12
      have c7 := w32_rng (from_0 + i_2)
      refine wp_rdI (by (try dsimp only) <;> first | assumption | omega | ((try simp (disch := omega) only [w32_of, w64_of, w8_of]) <;> first | assumption | omega | (split <;> omega) | (refine And.intro ?_ ?_ <;> split <;> omega)) | omega) (by (try dsimp only) <;> first | assumption | omega | ((try simp (disch := omega) only [w32_of, w64_of, w8_of]) <;> first | assumption | omega | (split <;> omega) | (refine And.intro ?_ ?_ <;> split <;> omega)) | omega) (fun x_13 e_x_13 => ?_)
      have b_x_13 : (-1000000000) ≤ x_13 ∧ x_13 ≤ 1000000000 := by rw [e_x_13]; exact iiA_x (s := this_0) hσ (by first | assumption | decide | omega) _
      try simp (disch := omega) only [w32_of, w64_of, w8_of] at e_x_13
      have c8 := iiA_x (s := this_0) hσ (by first | assumption | decide | omega) (from_0 + i_2)
      have c9 := w32_rng x_12
      refine wp_rdI (by (try dsimp only) <;> first | assumption | omega | ((try simp (disch := omega) only [w32_of, w64_of, w8_of]) <;> first | assumption | omega | (split <;> omega) | (refine And.intro ?_ ?_ <;> split <;> omega)) | omega) (by (try dsimp only) <;> first | assumption | omega | ((try simp (disch := omega) only [w32_of, w64_of, w8_of]) <;> first | assumption | omega | (split <;> omega) | (refine And.intro ?_ ?_ <;> split <;> omega)) | omega) (fun x_15 e_x_15 => ?_)
      have b_x_15 : (-1000000000) ≤ x_15 ∧ x_15 ≤ 1000000000 := by rw [e_x_15]; exact iiA_y (s := this_0) hσ (by first | assumption | decide | omega) _
      try simp (disch := omega) only [w32_of, w64_of, w8_of] at e_x_15
      have c10 := iiA_y (s := this_0) hσ (by first | assumption | decide | omega) x_12
      refine wp_rdI (by (try dsimp only) <;> first | assumption | omega | ((try simp (disch := omega) only [w32_of, w64_of, w8_of]) <;> first | assumption | omega | (split <;> omega) | (refine And.intro ?_ ?_ <;> split <;> omega)) | omega) (by (try dsimp only) <;> first | assumption | omega | ((try simp (disch := omega) only [w32_of, w64_of, w8_of]) <;> first | assumption | omega | (split <;> omega) | (refine And.intro ?_ ?_ <;> split <;> omega)) | omega) (fun x_17 e_x_17 => ?_)
      have b_x_17 : (-1000000000) ≤ x_17 ∧ x_17 ≤ 1000000000 := by rw [e_x_17]; exact iiA_x (s := this_0) hσ (by first | assumption | decide | omega) _
      try simp (disch := omega) only [w32_of, w64_of, w8_of] at e_x_17
      have c11 := iiA_x (s := this_0) hσ (by first | assumption | decide | omega) x_12
      refine wp_rdI (by (try dsimp only) <;> first | assumption | omega | ((try simp (disch := omega) only [w32_of, w64_of, w8_of]) <;> first | assumption | omega | (split <;> omega) | (refine And.intro ?_ ?_ <;> split <;> omega)) | omega) (by (try dsimp only) <;> first | assumption | omega | ((try simp (disch := omega) only [w32_of, w64_of, w8_of]) <;> first | assumption | omega | (split <;> omega) | (refine And.intro ?_ ?_ <;> split <;> omega)) | omega) (fun x_19 e_x_19 => ?_)
      have b_x_19 : (-1000000000) ≤ x_19 ∧ x_19 ≤ 1000000000 := by rw [e_x_19]; exact iiA_y (s := this_0) hσ (by first | assumption | decide | omega) _
      try simp (disch := omega) only [w32_of, w64_of, w8_of] at e_x_19
      have c12 := iiA_y (s := this_0) hσ (by first | assumption | decide | omega) (from_0 + i_2)
      have c13 := w32_rng x_13
      have c14 := w32_rng x_15
      have c15 := w32_rng x_17
      have c16 := w32_rng x_19
      refine wp_lt (fun x_21 e_x_21 => ?_)
      try simp (disch := omega) only [w32_of, w64_of, w8_of] at e_x_21
      exact wp_some (x_inl ⟨(by (try dsimp only) <;> first | assumption | omega | ((try simp (disch := omega) only [w32_of, w64_of, w8_of]) <;> first | assumption | omega | (split <;> omega) | (refine And.intro ?_ ?_ <;> split <;> omega)) | omega), (by (try dsimp only) <;> first | assumption | omega | ((try simp (disch := omega) only [w32_of, w64_of, w8_of]) <;> first | assumption | omega | (split <;> omega) | (refine And.intro ?_ ?_ <;> split <;> omega)) | omega)⟩)
    · try simp (disch := omega) only [w32_of, w64_of, w8_of, decide_eq_true_eq, decide_eq_false_iff_not, Bool.not_eq_true] at c3
      exact wp_some (x_inr ⟨(by (try dsimp only) <;> first | assumption | omega | ((try simp (disch := omega) only [w32_of, w64_of, w8_of]) <;> first | assumption | omega | (split <;> omega) | (refine And.intro ?_ ?_ <;> split <;> omega)) | omega), (by (try dsimp only) <;> first | assumption | omega | ((try simp (disch := omega) only [w32_of, w64_of, w8_of]) <;> first | assumption | omega | (split <;> omega) | (refine And.intro ?_ ?_ <;> split <;> omega)) | omega)⟩)
  rintro ⟨total_25, i_26⟩ _ y19
  try dsimp only at y19 ⊢
  obtain ⟨g17, g18⟩ := y19
  exact wp_some trivial
theorem s_A_putBox {σ : SG} {this_0 : Nat} (hσ : II σ) (hs_this_0 : isS this_0) : wp_ (fA_putBox σ this_0) (fun zz_ => II zz_.2 ∧ FC [kQ_box] [] σ zz_.2) := by
  unfold fA_putBox
  refine wp_bd (P := fun rr_ => (0 ≤ rr_.1 ∧ rr_.1 ≤ 2048) ∧ II rr_.2 ∧ FC [kQ_box] [] σ rr_.2) ?_ ?_
  · refine wp_whl (fun ss_ => (0 ≤ ss_.1 ∧ ss_.1 ≤ 2048) ∧ II ss_.2 ∧ FC [kQ_box] [] σ ss_.2) (fun ss_ => (2049 - ss_.1).toNat) ⟨(by (try dsimp only) <;> first | assumption | omega | ((try simp (disch := omega) only [w32_of, w64_of, w8_of]) <;> first | assumption | omega | (split <;> omega) | (refine And.intro ?_ ?_ <;> split <;> omega)) | omega), hσ, (FC_refl _ _ _)⟩ ?_
    rintro ⟨i_1, σ_2⟩ y2
    try dsimp only at y2 ⊢
    obtain ⟨g1, hσ_2, frσ_2⟩ := y2
    have c4 := w32_rng i_1
    have c5 := iiA_points (s := this_0) hσ_2 (by first | assumption | decide | omega) 0
    have c6 := congrFun (FC_points (t := this_0) frσ_2 (by first | assumption | decide | omega) (NS_0 _)) 0
    have c7 := iiA_points (s := this_0) hσ (by first | assumption | decide | omega) 0
    have c8 := w32_rng (σ_2 (kA_points this_0) 0)
    refine wp_if (fun c3 => ?_) (fun c3 => ?_)
    · try simp (disch := omega) only [w32_of, w64_of, w8_of, decide_eq_true_eq, decide_eq_false_iff_not, Bool.not_eq_true] at c3
      refine wp_bd (P := fun rr_ => ((-1000000000) ≤ rr_ ∧ rr_ ≤ 1000000000)) ?_ ?_
      · refine wp_if (fun c9 => ?_) (fun c9 => ?_)
        · try simp (disch := omega) only [w32_of, w64_of, w8_of, decide_eq_true_eq, decide_eq_false_iff_not, Bool.not_eq_true] at c9
          refine wp_rdI (by (try dsimp only) <;> first | assumption | omega | ((try simp (disch := omega) only [w32_of, w64_of, w8_of]) <;> first | assumption | omega | (split <;> omega) | (refine And.intro ?_ ?_ <;> split <;> omega)) | omega) (by (try dsimp only) <;> first | assumption | omega | ((try simp (disch := omega) only [w32_of, w64_of, w8_of]) <;> first | assumption | omega | (split <;> omega) | (refine And.intro ?_ ?_ <;> split <;> omega)) | omega) (fun x_18 e_x_18 => ?_)
          have b_x_18 : (-1000000000) ≤ x_18 ∧ x_18 ≤ 1000000000 := by rw [e_x_18]; exact iiA_x (s := this_0) hσ_2 (by first | assumption | decide | omega) _
          rw [FC_x (t := this_0) frσ_2 (by first | assumption | decide | omega) (NS_0 _)] at e_x_18
          try simp (disch := omega) only [w32_of, w64_of, w8_of] at e_x_18
          have c10 := iiA_x (s := this_0) hσ_2 (by first | assumption | decide | omega) i_1
          have c11 := congrFun (FC_x (t := this_0) frσ_2 (by first | assumption | decide | omega) (NS_0 _)) i_1
          have c12 := iiA_x (s := this_0) hσ (by first | assumption | decide | omega) i_1
          exact wp_some (by (try dsimp only) <;> first | assumption | omega | ((try simp (disch := omega) only [w32_of, w64_of, w8_of]) <;> first | assumption | omega | (split <;> omega) | (refine And.intro ?_ ?_ <;> split <;> omega)) | omega)
        · try simp (disch := omega) only [w32_of, w64_of, w8_of, decide_eq_true_eq, decide_eq_false_iff_not, Bool.not_eq_true] at c9
          refine wp_rdI (by (try dsimp only) <;> first | assumption | omega | ((try simp (disch := omega) only [w32_of, w64_of, w8_of]) <;> first | assumption | omega | (split <;> omega) | (refine And.intro ?_ ?_ <;> split <;> omega)) | omega) (by (try dsimp only) <;> first | assumption | omega | ((try simp (disch := omega) only [w32_of, w64_of, w8_of]) <;> first | assumption | omega | (split <;> omega) | (refine And.intro ?_ ?_ <;> split <;> omega)) | omega) (fun x_21 e_x_21 => ?_)
          have b_x_21 : (-1000000000) ≤ x_21 ∧ x_21 ≤ 1000000000 := by rw [e_x_21]; exact ii_kQ_box hσ_2 _
          try simp (disch := omega) only [w32_of, w64_of, w8_of] at e_x_21
          have c13 := ii_kQ_box hσ_2 0
          refine wp_rdI (by (try dsimp only) <;> first | assumption | omega | ((try simp (disch := omega) only [w32_of, w64_of, w8_of]) <;> first | assumption | omega | (split <;> omega) | (refine And.intro ?_ ?_ <;> split <;> omega)) | omega) (by (try dsimp only) <;> first | assumption | omega | ((try simp (disch := omega) only [w32_of, w64_of, w8_of]) <;> first | assumption | omega | (split <;> omega) | (refine And.intro ?_ ?_ <;> split <;> omega)) | omega) (fun x_23 e_x_23 => ?_)
          have b_x_23 : (-1000000000) ≤ x_23 ∧ x_23 ≤ 1000000000 := by rw [e_x_23]; exact iiA_x (s := this_0) hσ_2 (by first | assumption | decide | omega) _
          rw [FC_x (t := this_0) frσ_2 (by first | assumption | decide | omega) (NS_0 _)] at e_x_23
          try simp (disch := omega) only [w32_of, w64_of, w8_of] at e_x_23
          have c14 := iiA_x (s := this_0) hσ_2 (by first | assumption | decide | omega) i_1
          have c15 := congrFun (FC_x (t := this_0) frσ_2 (by first | assumption | decide | omega) (NS_0 _)) i_1
          have c16 := iiA_x (s := this_0) hσ (by first | assumption | decide | omega) i_1
          have c17 := q_mni_bd x_21 x_23
          try simp (disch := omega) only [w32_of, w64_of, w8_of] at c17
          exact wp_some (by (try dsimp only) <;> first | assumption | omega | ((try simp (disch := omega) only [w32_of, w64_of, w8_of]) <;> first | assumption | omega | (split <;> omega) | (refine And.intro ?_ ?_ <;> split <;> omega)) | omega)
      rintro x_26 _ g18
      refine wp_waI hσ_2 b_kQ_box (by (try dsimp only) <;> first | assumption | omega | ((try simp (disch := omega) only [w32_of, w64_of, w8_of]) <;> first | assumption | omega | (split <;> omega) | (refine And.intro ?_ ?_ <;> split <;> omega)) | omega) (by (try dsimp only) <;> first | assumption | omega | ((try simp (disch := omega) only [w32_of, w64_of, w8_of]) <;> first | assumption | omega | (split <;> omega) | (refine And.intro ?_ ?_ <;> split <;> omega)) | omega) (by (try dsimp only) <;> first | assumption | omega | ((try simp (disch := omega) only [w32_of, w64_of, w8_of]) <;> first | assumption | omega | (split <;> omega) | (refine And.intro ?_ ?_ <;> split <;> omega)) | omega) (fun σ_27 hσ_27 eσ_27 => ?_)
      try simp (disch := omega) only [w32_of, w64_of, w8_of] at eσ_27
      have flσ_27 := FC_sg eσ_27 (by first | decide | (rcases hE with rfl | rfl | rfl <;> decide))
      have frσ_27 : FC [kQ_box] [] σ σ_27 := FC_tr frσ_2 flσ_27 (by first | decide | (rcases hE with rfl | rfl | rfl <;> decide)) (by first | decide | (rcases hE with rfl | rfl | rfl <;> decide)) (by simp) (by simp)
      refine wp_bd (P := fun rr_ => ((-1000000000) ≤ rr_ ∧ rr_ ≤ 1000000000)) ?_ ?_
      · refine wp_if (fun c19 => ?_) (fun c19 => ?_)
        · try simp (disch := omega) only [w32_of, w64_of, w8_of, decide_eq_true_eq, decide_eq_false_iff_not, Bool.not_eq_true] at c19
          refine wp_rdI (by (try dsimp only) <;> first | assumption | omega | ((try simp (disch := omega) only [w32_of, w64_of, w8_of]) <;> first | assumption | omega | (split <;> omega) | (refine And.intro ?_ ?_ <;> split <;> omega)) | omega) (by (try dsimp only) <;> first | assumption | omega | ((try simp (disch := omega) only [w32_of, w64_of, w8_of]) <;> first | assumption | omega | (split <;> omega) | (refine And.intro ?_ ?_ <;> split <;> omega)) | omega) (fun x_36 e_x_36 => ?_)
          have b_x_36 : (-1000000000) ≤ x_36 ∧ x_36 ≤ 1000000000 := by rw [e_x_36]; exact iiA_y (s := this_0) hσ_27 (by first | assumption | decide | omega) _
          rw [FC_y (t := this_0) frσ_27 (by first | assumption | decide | omega) (NS_0 _)] at e_x_36
          try simp (disch := omega) only [w32_of, w64_of, w8_of] at e_x_36
          have c20 := iiA_y (s := this_0) hσ_27 (by first | assumption | decide | omega) i_1
          have c21 := congrFun (FC_y (t := this_0) flσ_27 (by first | assumption | decide | omega) (NS_0 _)) i_1
          have c22 := iiA_y (s := this_0) hσ_2 (by first | assumption | decide | omega) i_1
          have c23 := congrFun (FC_y (t := this_0) frσ_2 (by first | assumption | decide | omega) (NS_0 _)) i_1
          have c24 := iiA_y (s := this_0) hσ (by first | assumption | decide | omega) i_1
          exact wp_some (by (try dsimp only) <;> first | assumption | omega | ((try simp (disch := omega) only [w32_of, w64_of, w8_of]) <;> first | assumption | omega | (split <;> omega) | (refine And.intro ?_ ?_ <;> split <;> omega)) | omega)
        · try simp (disch := omega) only [w32_of, w64_of, w8_of, decide_eq_true_eq, decide_eq_false_iff_not, Bool.not_eq_true] at c19
          refine wp_rdI (by (try dsimp only) <;> first | assumption | omega | ((try simp (disch := omega) only [w32_of, w64_of, w8_of]) <;> first | assumption | omega | (split <;> omega) | (refine And.intro ?_ ?_ <;> split <;> omega)) | omega) (by (try dsimp only) <;> first | assumption | omega | ((try simp (disch := omega) only [w32_of, w64_of, w8_of]) <;> first | assumption | omega | (split <;> omega) | (refine And.intro ?_ ?_ <;> split <;> omega)) | omega) (fun x_39 e_x_39 => ?_)
          have b_x_39 : (-1000000000) ≤ x_39 ∧ x_39 ≤ 1000000000 := by rw [e_x_39]; exact ii_kQ_box hσ_27 _
          try simp (disch := omega) only [w32_of, w64_of, w8_of] at e_x_39
          have c25 := ii_kQ_box hσ_27 1
          have c26 := (congrFun (congrFun eσ_27 kQ_box) 1).trans (sg_ni (by decide))
          have c27 := ii_kQ_box hσ_2 1
          refine wp_rdI (by (try dsimp only) <;> first | assumption | omega | ((try simp (disch := omega) only [w32_of, w64_of, w8_of]) <;> first | assumption | omega | (split <;> omega) | (refine And.intro ?_ ?_ <;> split <;> omega)) | omega) (by (try dsimp only) <;> first | assumption | omega | ((try simp (disch := omega) only [w32_of, w64_of, w8_of]) <;> first | assumption | omega | (split <;> omega) | (refine And.intro ?_ ?_ <;> split <;> omega)) | omega) (fun x_41 e_x_41 => ?_)
          have b_x_41 : (-1000000000) ≤ x_41 ∧ x_41 ≤ 1000000000 := by rw [e_x_41]; exact iiA_y (s := this_0) hσ_27 (by first | assumption | decide | omega) _
          rw [FC_y (t := this_0) frσ_27 (by first | assumption | decide | omega) (NS_0 _)] at e_x_41
          try simp (disch := omega) only [w32_of, w64_of, w8_of] at e_x_41
          have c28 := iiA_y (s := this_0) hσ_27 (by first | assumption | decide | omega) i_1
          have c29 := congrFun (FC_y (t := this_0) flσ_27 (by first | assumption | decide | omega) (NS_0 _)) i_1
          have c30 := iiA_y (s := this_0) hσ_2 (by first | assumption | decide | omega) i_1
          have c31 := congrFun (FC_y (t := this_0) frσ_2 (by first | assumption | decide | omega) (NS_0 _)) i_1
          have c32 := iiA_y (s := this_0) hσ (by first | assumption | decide | omega) i_1
          have c33 := q_mni_bd x_39 x_41
          try simp (disch := omega) only [w32_of, w64_of, w8_of] at c33
          exact wp_some (by (try dsimp only) <;> first | assumption | omega | ((try simp (disch := omega) only [w32_of, w64_of, w8_of]) <;> first | assumption | omega | (split <;> omega) | (refine And.intro ?_ ?_ <;> split <;> omega)) | omega)
      rintro x_44 _ g34
      refine wp_waI hσ_27 b_kQ_box (by (try dsimp only) <;> first | assumption | omega | ((try simp (disch := omega) only [w32_of, w64_of, w8_of]) <;> first | assumption | omega | (split <;> omega) | (refine And.intro ?_ ?_ <;> split <;> omega)) | omega) (by (try dsimp only) <;> first | assumption | omega | ((try simp (disch := omega) only [w32_of, w64_of, w8_of]) <;> first | assumption | omega | (split <;> omega) | (refine And.intro ?_ ?_ <;> split <;> omega)) | omega) (by (try dsimp only) <;> first | assumption | omega | ((try simp (disch := omega) only [w32_of, w64_of, w8_of]) <;> first | assumption | omega | (split <;> omega) | (refine And.intro ?_ ?_ <;> split <;> omega)) | omega) (fun σ_45 hσ_45 eσ_45 => ?_)
      try simp (disch := omega) only [w32_of, w64_of, w8_of] at eσ_45
      have flσ_45 := FC_sg eσ_45 (by first | decide | (rcases hE with rfl | rfl | rfl <;> decide))
      have frσ_45 : FC [kQ_box] [] σ σ_45 := FC_tr frσ_27 flσ_45 (by first | decide | (rcases hE with rfl | rfl | rfl <;> decide)) (by first | decide | (rcases hE with rfl | rfl | rfl <;> decide)) (by simp) (by simp)
      refine wp_bd (P := fun rr_ => ((-1000000000) ≤ rr_ ∧ rr_ ≤ 1000000000)) ?_ ?_
      · refine wp_if (fun c35 => ?_) (fun c35 => ?_)
        · try simp (disch := omega) only [w32_of, w64_of, w8_of, decide_eq_true_eq, decide_eq_false_iff_not, Bool.not_eq_true] at c35
          refine wp_rdI (by (try dsimp only) <;> first | assumption | omega | ((try simp (disch := omega) only [w32_of, w64_of, w8_of]) <;> first | assumption | omega | (split <;> omega) | (refine And.intro ?_ ?_ <;> split <;> omega)) | omega) (by (try dsimp only) <;> first | assumption | omega | ((try simp (disch := omega) only [w32_of, w64_of, w8_of]) <;> first | assumption | omega | (split <;> omega) | (refine And.intro ?_ ?_ <;> split <;> omega)) | omega) (fun x_54 e_x_54 => ?_)
          have b_x_54 : (-1000000000) ≤ x_54 ∧ x_54 ≤ 1000000000 := by rw [e_x_54]; exact iiA_x (s := this_0) hσ_45 (by first | assumption | decide | omega) _
          rw [FC_x (t := this_0) frσ_45 (by first | assumption | decide | omega) (NS_0 _)] at e_x_54
          try simp (disch := omega) only [w32_of, w64_of, w8_of] at e_x_54
          have c36 := iiA_x (s := this_0) hσ_45 (by first | assumption | decide | omega) i_1
          have c37 := congrFun (FC_x (t := this_0) flσ_45 (by first | assumption | decide | omega) (NS_0 _)) i_1
          have c38 := iiA_x (s := this_0) hσ_27 (by first | assumption | decide | omega) i_1
          have c39 := congrFun (FC_x (t := this_0) flσ_27 (by first | assumption | decide | omega) (NS_0 _)) i_1
          have c40 := iiA_x (s := this_0) hσ_2 (by first | assumption | decide | omega) i_1
          have c41 := congrFun (FC_x (t := this_0) frσ_2 (by first | assumption | decide | omega) (NS_0 _)) i_1
          have c42 := iiA_x (s := this_0) hσ (by first | assumption | decide | omega) i_1
          exact wp_some (by (try dsimp only) <;> first | assumption | omega | ((try simp (disch := omega) only [w32_of, w64_of, w8_of]) <;> first | assumption | omega | (split <;> omega) | (refine And.intro ?_ ?_ <;> split <;> omega)) | omega)
        · try simp (disch := omega) only [w32_of, w64_of, w8_of, decide_eq_true_eq, decide_eq_false_iff_not, Bool.not_eq_true] at c35
          refine wp_rdI (by (try dsimp only) <;> first | assumption | omega | ((try simp (disch := omega) only [w32_of, w64_of, w8_of]) <;> first | assumption | omega | (split <;> omega) | (refine And.intro ?_ ?_ <;> split <;> omega)) | omega) (by (try dsimp only) <;> first | assumption | omega | ((try simp (disch := omega) only [w32_of, w64_of, w8_of]) <;> first | assumption | omega | (split <;> omega) | (refine And.intro ?_ ?_ <;> split <;> omega)) | omega) (fun x_57 e_x_57 => ?_)
          have b_x_57 : (-1000000000) ≤ x_57 ∧ x_57 ≤ 1000000000 := by rw [e_x_57]; exact ii_kQ_box hσ_45 _
          try simp (disch := omega) only [w32_of, w64_of, w8_of] at e_x_57
          have c43 := ii_kQ_box hσ_45 2
          have c44 := (congrFun (congrFun eσ_45 kQ_box) 2).trans (sg_ni (by decide))
          have c45 := ii_kQ_box hσ_27 2
          have c46 := (congrFun (congrFun eσ_27 kQ_box) 2).trans (sg_ni (by decide))
          have c47 := ii_kQ_box hσ_2 2
          refine wp_rdI (by (try dsimp only) <;> first | assumption | omega | ((try simp (disch := omega) only [w32_of, w64_of, w8_of]) <;> first | assumption | omega | (split <;> omega) | (refine And.intro ?_ ?_ <;> split <;> omega)) | omega) (by (try dsimp only) <;> first | assumption | omega | ((try simp (disch := omega) only [w32_of, w64_of, w8_of]) <;> first | assumption | omega | (split <;> omega) | (refine And.intro ?_ ?_ <;> split <;> omega)) | omega) (fun x_59 e_x_59 => ?_)
          have b_x_59 : (-1000000000) ≤ x_59 ∧ x_59 ≤ 1000000000 := by rw [e_x_59]; exact iiA_x (s := this_0) hσ_45 (by first | assumption | decide | omega) _
          rw [FC_x (t := this_0) frσ_45 (by first | assumption | decide | omega) (NS_0 _)] at e_x_59
          try simp (disch := omega) only [w32_of, w64_of, w8_of] at e_x_59
          have c48 := iiA_x (s := this_0) hσ_45 (by first | assumption | decide | omega) i_1
          have c49 := congrFun (FC_x (t := this_0) flσ_45 (by first | assumption | decide | omega) (NS_0 _)) i_1
          have c50 := iiA_x (s := this_0) hσ_27 (by first | assumption | decide | omega) i_1
          have c51 := congrFun (FC_x (t := this_0) flσ_27 (by first | assumption | decide | omega) (NS_0 _)) i_1
          have c52 := iiA_x (s := this_0) hσ_2 (by first | assumption | decide | omega) i_1
          have c53 := congrFun (FC_x (t := this_0) frσ_2 (by first | assumption | decide | omega) (NS_0 _)) i_1
          have c54 := iiA_x (s := this_0) hσ (by first | assumption | decide | omega) i_1
          have c55 := q_mxi_bd x_57 x_59
          try simp (disch := omega) only [w32_of, w64_of, w8_of] at c55
          exact wp_some (by (try dsimp only) <;> first | assumption | omega | ((try simp (disch := omega) only [w32_of, w64_of, w8_of]) <;> first | assumption | omega | (split <;> omega) | (refine And.intro ?_ ?_ <;> split <;> omega)) | omega)
      rintro x_62 _ g56
      refine wp_waI hσ_45 b_kQ_box (by (try dsimp only) <;> first | assumption | omega | ((try simp (disch := omega) only [w32_of, w64_of, w8_of]) <;> first | assumption | omega | (split <;> omega) | (refine And.intro ?_ ?_ <;> split <;> omega)) | omega) (by (try dsimp only) <;> first | assumption | omega | ((try simp (disch := omega) only [w32_of, w64_of, w8_of]) <;> first | assumption | omega | (split <;> omega) | (refine And.intro ?_ ?_ <;> split <;> omega)) | omega) (by (try dsimp only) <;> first | assumption | omega | ((try simp (disch := omega) only [w32_of, w64_of, w8_of]) <;> first | assumption | omega | (split <;> omega) | (refine And.intro ?_ ?_ <;> split <;> omega)) | omega) (fun σ_63 hσ_63 eσ_63 => ?_)
      try simp (disch := omega) only [w32_of, w64_of, w8_of] at eσ_63
      have flσ_63 := FC_sg eσ_63 (by first | decide | (rcases hE with rfl | rfl | rfl <;> decide))
      have frσ_63 : FC [kQ_box] [] σ σ_63 := FC_tr frσ_45 flσ_63 (by first | decide | (rcases hE with rfl | rfl | rfl <;> decide)) (by first | decide | (rcases hE with rfl | rfl | rfl <;> decide)) (by simp) (by simp)
      refine wp_bd (P := fun rr_ => ((-1000000000) ≤ rr_ ∧ rr_ ≤ 1000000000)) ?_ ?_
      · refine wp_if (fun c57 => ?_) (fun c57 => ?_)
        · try simp (disch := omega) only [w32_of, w64_of, w8_of, decide_eq_true_eq, decide_eq_false_iff_not, Bool.not_eq_true] at c57
          refine wp_rdI (by (try dsimp only) <;> first | assumption | omega | ((try simp (disch := omega) only [w32_of, w64_of, w8_of]) <;> first | assumption | omega | (split <;> omega) | (refine And.intro ?_ ?_ <;> split <;> omega)) | omega) (by (try dsimp only) <;> first | assumption | omega | ((try simp (disch := omega) only [w32_of, w64_of, w8_of]) <;> first | assumption | omega | (split <;> omega) | (refine And.intro ?_ ?_ <;> split <;> omega)) | omega) (fun x_72 e_x_72 => ?_)
          have b_x_72 : (-1000000000) ≤ x_72 ∧ x_72 ≤ 1000000000 := by rw [e_x_72]; exact iiA_y (s := this_0) hσ_63 (by first | assumption | decide | omega) _
          rw [FC_y (t := this_0) frσ_63 (by first | assumption | decide | omega) (NS_0 _)] at e_x_72
          try simp (disch := omega) only [w32_of, w64_of, w8_of] at e_x_72
          have c58 := iiA_y (s := this_0) hσ_63 (by first | assumption | decide | omega) i_1
          have c59 := congrFun (FC_y (t := this_0) flσ_63 (by first | assumption | decide | omega) (NS_0 _)) i_1
          have c60 := iiA_y (s := this_0) hσ_45 (by first | assumption | decide | omega) i_1
          have c61 := congrFun (FC_y (t := this_0) flσ_45 (by first | assumption | decide | omega) (NS_0 _)) i_1
          have c62 := iiA_y (s := this_0) hσ_27 (by first | assumption | decide | omega) i_1
          have c63 := congrFun (FC_y (t := this_0) flσ_27 (by first | assumption | decide | omega) (NS_0 _)) i_1
          have c64 := iiA_y (s := this_0) hσ_2 (by first | assumption | decide | omega) i_1
          have c65 := congrFun (FC_y (t := this_0) frσ_2 (by first | assumption | decide | omega) (NS_0 _)) i_1
          have c66 := iiA_y (s := this_0) hσ (by first | assumption | decide | omega) i_1
          exact wp_some (by (try dsimp only) <;> first | assumption | omega | ((try simp (disch := omega) only [w32_of, w64_of, w8_of]) <;> first | assumption | omega | (split <;> omega) | (refine And.intro ?_ ?_ <;> split <;> omega)) | omega)
        · try simp (disch := omega) only [w32_of, w64_of, w8_of, decide_eq_true_eq, decide_eq_false_iff_not, Bool.not_eq_true] at c57
          refine wp_rdI (by (try dsimp only) <;> first | assumption | omega | ((try simp (disch := omega) only [w32_of, w64_of, w8_of]) <;> first | assumption | omega | (split <;> omega) | (refine And.intro ?_ ?_ <;> split <;> omega)) | omega) (by (try dsimp only) <;> first | assumption | omega | ((try simp (disch := omega) only [w32_of, w64_of, w8_of]) <;> first | assumption | omega | (split <;> omega) | (refine And.intro ?_ ?_ <;> split <;> omega)) | omega) (fun x_75 e_x_75 => ?_)
          have b_x_75 : (-1000000000) ≤ x_75 ∧ x_75 ≤ 1000000000 := by rw [e_x_75]; exact ii_kQ_box hσ_63 _
          try simp (disch := omega) only [w32_of, w64_of, w8_of] at e_x_75
          have c67 := ii_kQ_box hσ_63 3
          have c68 := (congrFun (congrFun eσ_63 kQ_box) 3).trans (sg_ni (by decide))
          have c69 := ii_kQ_box hσ_45 3
          have c70 := (congrFun (congrFun eσ_45 kQ_box) 3).trans (sg_ni (by decide))
          have c71 := ii_kQ_box hσ_27 3
          have c72 := (congrFun (congrFun eσ_27 kQ_box) 3).trans (sg_ni (by decide))
          have c73 := ii_kQ_box hσ_2 3
          refine wp_rdI (by (try dsimp only) <;> first | assumption | omega | ((try simp (disch := omega) only [w32_of, w64_of, w8_of]) <;> first | assumption | omega | (split <;> omega) | (refine And.intro ?_ ?_ <;> split <;> omega)) | omega) (by (try dsimp only) <;> first | assumption | omega | ((try simp (disch := omega) only [w32_of, w64_of, w8_of]) <;> first | assumption | omega | (split <;> omega) | (refine And.intro ?_ ?_ <;> split <;> omega)) | omega) (fun x_77 e_x_77 => ?_)
          have b_x_77 : (-1000000000) ≤ x_77 ∧ x_77 ≤ 1000000000 := by rw [e_x_77]; exact iiA_y (s := this_0) hσ_63 (by first | assumption | decide | omega) _
          rw [FC_y (t := this_0) frσ_63 (by first | assumption | decide | omega) (NS_0 _)] at e_x_77
          try simp (disch := omega) only [w32_of, w64_of, w8_of] at e_x_77
          have c74 := iiA_y (s := this_0) hσ_63 (by first | assumption | decide | omega) i_1
          have c75 := congrFun (FC_y (t := this_0) flσ_63 (by first | assumption | decide | omega) (NS_0 _)) i_1
          have c76 := iiA_y (s := this_0) hσ_45 (by first | assumption | decide | omega) i_1
          have c77 := congrFun (FC_y (t := this_0) flσ_45 (by first | assumption | decide | omega) (NS_0 _)) i_1
          have c78 := iiA_y (s := this_0) hσ_27 (by first | assumption | decide | omega) i_1
          have c79 := congrFun (FC_y (t := this_0) flσ_27 (by first | assumption | decide | omega) (NS_0 _)) i_1
          have c80 := iiA_y (s := this_0) hσ_2 (by first | assumption | decide | omega) i_1
          have c81 := congrFun (FC_y (t := this_0) frσ_2 (by first | assumption | decide | omega) (NS_0 _)) i_1
          have c82 := iiA_y (s := this_0) hσ (by first | assumption | decide | omega) i_1
          have c83 := q_mxi_bd x_75 x_77
          try simp (disch := omega) only [w32_of, w64_of, w8_of] at c83
          exact wp_some (by (try dsimp only) <;> first | assumption | omega | ((try simp (disch := omega) only [w32_of, w64_of, w8_of]) <;> first | assumption | omega | (split <;> omega) | (refine And.intro ?_ ?_ <;> split <;> omega)) | omega)
      rintro x_80 _ g84
      refine wp_waI hσ_63 b_kQ_box (by (try dsimp only) <;> first | assumption | omega | ((try simp (disch := omega) only [w32_of, w64_of, w8_of]) <;> first | assumption | omega | (split <;> omega) | (refine And.intro ?_ ?_ <;> split <;> omega)) | omega) (by (try dsimp only) <;> first | assumption | omega | ((try simp (disch := omega) only [w32_of, w64_of, w8_of]) <;> first | assumption | omega | (split <;> omega) | (refine And.intro ?_ ?_ <;> split <;> omega)) | omega) (by (try dsimp only) <;> first | assumption | omega | ((try simp (disch := omega) only [w32_of, w64_of, w8_of]) <;> first | assumption | omega | (split <;> omega) | (refine And.intro ?_ ?_ <;> split <;> omega)) | omega) (fun σ_81 hσ_81 eσ_81 => ?_)
      try simp (disch := omega) only [w32_of, w64_of, w8_of] at eσ_81
      have flσ_81 := FC_sg eσ_81 (by first | decide | (rcases hE with rfl | rfl | rfl <;> decide))
      have frσ_81 : FC [kQ_box] [] σ σ_81 := FC_tr frσ_63 flσ_81 (by first | decide | (rcases hE with rfl | rfl | rfl <;> decide)) (by first | decide | (rcases hE with rfl | rfl | rfl <;> decide)) (by simp) (by simp)
      exact wp_some (x_inl ⟨⟨(by (try dsimp only) <;> first | assumption | omega | ((try simp (disch := omega) only [w32_of, w64_of, w8_of]) <;> first | assumption | omega | (split <;> omega) | (refine And.intro ?_ ?_ <;> split <;> omega)) | omega), hσ_81, frσ_81⟩, (by (try dsimp only) <;> first | assumption | omega | ((try simp (disch := omega) only [w32_of, w64_of, w8_of]) <;> first | assumption | omega | (split <;> omega) | (refine And.intro ?_ ?_ <;> split <;> omega)) | omega)⟩)
    · try simp (disch := omega) only [w32_of, w64_of, w8_of, decide_eq_true_eq, decide_eq_false_iff_not, Bool.not_eq_true] at c3
      exact wp_some (x_inr ⟨(by (try dsimp only) <;> first | assumption | omega | ((try simp (disch := omega) only [w32_of, w64_of, w8_of]) <;> first | assumption | omega | (split <;> omega) | (refine And.intro ?_ ?_ <;> split <;> omega)) | omega), hσ_2, frσ_2⟩)
  rintro ⟨i_101, σ_102⟩ _ y86
  try dsimp only at y86 ⊢
  obtain ⟨g85, hσ_102, frσ_102⟩ := y86
  exact wp_some ⟨hσ_102, frσ_102⟩
theorem s_A_isLike {σ : SG} {this_0 : Nat} {other_0 : Nat} (hσ : II σ) (hs_this_0 : isS this_0) (hs_other_0 : isS other_0) : wp_ (fA_isLike σ this_0 other_0) (fun zz_ => True) := by
  unfold fA_isLike
  have c2 := iiA_plans (s := this_0) hσ (by first | assumption | decide | omega) 0
  have c3 := w32_rng (σ (kA_plans this_0) 0)
  have c4 := iiA_plans (s := other_0) hσ (by first | assumption | decide | omega) 0
  have c5 := w32_rng (σ (kA_plans other_0) 0)
  have c6 := iiA_points (s := this_0) hσ (by first | assumption | decide | omega) 0
  have c7 := w32_rng (σ (kA_points this_0) 0)
  have c8 := iiA_points (s := other_0) hσ (by first | assumption | decide | omega) 0
  have c9 := w32_rng (σ (kA_points other_0) 0)
  refine wp_if (fun c1 => ?_) (fun c1 => ?_)
  · try simp (disch := omega) only [w32_of, w64_of, w8_of, decide_eq_true_eq, decide_eq_false_iff_not, Bool.not_eq_true] at c1
    exact wp_some trivial
  · try simp (disch := omega) only [w32_of, w64_of, w8_of, decide_eq_true_eq, decide_eq_false_iff_not, Bool.not_eq_true] at c1
    refine wp_bx (P := fun rr_ => (0 ≤ rr_ ∧ rr_ ≤ 2048)) ?_ ?_
    · refine wp_whl (fun ss_ => (0 ≤ ss_ ∧ ss_ ≤ 2048)) (fun ss_ => (2049 - ss_).toNat) (by (try dsimp only) <;> first | assumption | omega | ((try simp (disch := omega) only [w32_of, w64_of, w8_of]) <;> first | assumption | omega | (split <;> omega) | (refine And.intro ?_ ?_ <;> split <;> omega)) | omega) ?_
      rintro i_1 g10
      have c12 := w32_rng i_1
      refine wp_if (fun c11 => ?_) (fun c11 => ?_)
      · try simp (disch := omega) only [w32_of, w64_of, w8_of, decide_eq_true_eq, decide_eq_false_iff_not, Bool.not_eq_true] at c11
        refine wp_rdI (by (try dsimp only) <;> first | assumption | omega | ((try simp (disch := omega) only [w32_of, w64_of, w8_of]) <;> first | assumption | omega | (split <;> omega) | (refine And.intro ?_ ?_ <;> split <;> omega)) | omega) (by (try dsimp only) <;> first | assumption | omega | ((try simp (disch := omega) only [w32_of, w64_of, w8_of]) <;> first | assumption | omega | (split <;> omega) | (refine And.intro ?_ ?_ <;> split <;> omega)) | omega) (fun x_10 e_x_10 => ?_)
        try simp (disch := omega) only [w32_of, w64_of, w8_of] at e_x_10
        refine wp_rdI (by (try dsimp only) <;> first | assumption | omega | ((try simp (disch := omega) only [w32_of, w64_of, w8_of]) <;> first | assumption | omega | (split <;> omega) | (refine And.intro ?_ ?_ <;> split <;> omega)) | omega) (by (try dsimp only) <;> first | assumption | omega | ((try simp (disch := omega) only [w32_of, w64_of, w8_of]) <;> first | assumption | omega | (split <;> omega) | (refine And.intro ?_ ?_ <;> split <;> omega)) | omega) (fun x_12 e_x_12 => ?_)
        try simp (disch := omega) only [w32_of, w64_of, w8_of] at e_x_12
        have c14 := w32_rng x_10
        have c15 := w32_rng x_12
        refine wp_if (fun c13 => ?_) (fun c13 => ?_)
        · try simp (disch := omega) only [w32_of, w64_of, w8_of, decide_eq_true_eq, decide_eq_false_iff_not, Bool.not_eq_true] at c13
          exact wp_some (x_inr (x_inr trivial))
        · try simp (disch := omega) only [w32_of, w64_of, w8_of, decide_eq_true_eq, decide_eq_false_iff_not, Bool.not_eq_true] at c13
          exact wp_some (x_inl ⟨(by (try dsimp only) <;> first | assumption | omega | ((try simp (disch := omega) only [w32_of, w64_of, w8_of]) <;> first | assumption | omega | (split <;> omega) | (refine And.intro ?_ ?_ <;> split <;> omega)) | omega), (by (try dsimp only) <;> first | assumption | omega | ((try simp (disch := omega) only [w32_of, w64_of, w8_of]) <;> first | assumption | omega | (split <;> omega) | (refine And.intro ?_ ?_ <;> split <;> omega)) | omega)⟩)
      · try simp (disch := omega) only [w32_of, w64_of, w8_of, decide_eq_true_eq, decide_eq_false_iff_not, Bool.not_eq_true] at c11
        exact wp_some (x_inr (x_inl (by (try dsimp only) <;> first | assumption | omega | ((try simp (disch := omega) only [w32_of, w64_of, w8_of]) <;> first | assumption | omega | (split <;> omega) | (refine And.intro ?_ ?_ <;> split <;> omega)) | omega)))
    rintro i_17 g16
    refine wp_bx (P := fun rr_ => (0 ≤ rr_ ∧ rr_ ≤ 2048)) ?_ ?_
    · refine wp_whl (fun ss_ => (0 ≤ ss_ ∧ ss_ ≤ 2048)) (fun ss_ => (2049 - ss_).toNat) (by (try dsimp only) <;> first | assumption | omega | ((try simp (disch := omega) only [w32_of, w64_of, w8_of]) <;> first | assumption | omega | (split <;> omega) | (refine And.intro ?_ ?_ <;> split <;> omega)) | omega) ?_
      rintro i_18 g17
      have c19 := w32_rng i_18
      refine wp_if (fun c18 => ?_) (fun c18 => ?_)
      · try simp (disch := omega) only [w32_of, w64_of, w8_of, decide_eq_true_eq, decide_eq_false_iff_not, Bool.not_eq_true] at c18
        refine wp_rdI (by (try dsimp only) <;> first | assumption | omega | ((try simp (disch := omega) only [w32_of, w64_of, w8_of]) <;> first | assumption | omega | (split <;> omega) | (refine And.intro ?_ ?_ <;> split <;> omega)) | omega) (by (try dsimp only) <;> first | assumption | omega | ((try simp (disch := omega) only [w32_of, w64_of, w8_of]) <;> first | assumption | omega | (split <;> omega) | (refine And.intro ?_ ?_ <;> split <;> omega)) | omega) (fun x_40 e_x_40 => ?_)
        have b_x_40 : (-1000000000) ≤ x_40 ∧ x_40 ≤ 1000000000 := by rw [e_x_40]; exact iiA_x (s := this_0) hσ (by first | assumption | decide | omega) _
        try simp (disch := omega) only [w32_of, w64_of, w8_of] at e_x_40
        have c20 := iiA_x (s := this_0) hσ (by first | assumption | decide | omega) i_18
        refine wp_rdI (by (try dsimp only) <;> first | assumption | omega | ((try simp (disch := omega) only [w32_of, w64_of, w8_of]) <;> first | assumption | omega | (split <;> omega) | (refine And.intro ?_ ?_ <;> split <;> omega)) | omega) (by (try dsimp only) <;> first | assumption | omega | ((try simp (disch := omega) only [w32_of, w64_of, w8_of]) <;> first | assumption | omega | (split <;> omega) | (refine And.intro ?_ ?_ <;> split <;> omega)) | omega) (fun x_42 e_x_42 => ?_)
        have b_x_42 : (-1000000000) ≤ x_42 ∧ x_42 ≤ 1000000000 := by rw [e_x_42]; exact iiA_x (s := other_0) hσ (by first | assumption | decide | omega) _
        try simp (disch := omega) only [w32_of, w64_of, w8_of] at e_x_42
        have c21 := iiA_x (s := other_0) hσ (by first | assumption | decide | omega) i_18
        have c23 := w32_rng x_40
        have c24 := w32_rng x_42
        refine wp_if (fun c22 => ?_) (fun c22 => ?_)
        · try simp (disch := omega) only [w32_of, w64_of, w8_of, decide_eq_true_eq, decide_eq_false_iff_not, Bool.not_eq_true] at c22
          exact wp_some (x_inr (x_inr trivial))
        · try simp (disch := omega) only [w32_of, w64_of, w8_of, decide_eq_true_eq, decide_eq_false_iff_not, Bool.not_eq_true] at c22
          refine wp_rdI (by (try dsimp only) <;> first | assumption | omega | ((try simp (disch := omega) only [w32_of, w64_of, w8_of]) <;> first | assumption | omega | (split <;> omega) | (refine And.intro ?_ ?_ <;> split <;> omega)) | omega) (by (try dsimp only) <;> first | assumption | omega | ((try simp (disch := omega) only [w32_of, w64_of, w8_of]) <;> first | assumption | omega | (split <;> omega) | (refine And.intro ?_ ?_ <;> split <;> omega)) | omega) (fun x_45 e_x_45 => ?_)
          have b_x_45 : (-1000000000) ≤ x_45 ∧ x_45 ≤ 1000000000 := by rw [e_x_45]; exact iiA_y (s := this_0) hσ (by first | assumption | decide | omega) _
          try simp (disch := omega) only [w32_of, w64_of, w8_of] at e_x_45
          have c25 := iiA_y (s := this_0) hσ (by first | assumption | decide | omega) i_18
          refine wp_rdI (by (try dsimp only) <;> first | assumption | omega | ((try simp (disch := omega) only [w32_of, w64_of, w8_of]) <;> first | assumption | omega | (split <;> omega) | (refine And.intro ?_ ?_ <;> split <;> omega)) | omega) (by (try dsimp only) <;> first | assumption | omega | ((try simp (disch := omega) only [w32_of, w64_of, w8_of]) <;> first | assumption | omega | (split <;> omega) | (refine And.intro ?_ ?_ <;> split <;> omega)) | omega) (fun x_47 e_x_47 => ?_)
          have b_x_47 : (-1000000000) ≤ x_47 ∧ x_47 ≤ 1000000000 := by rw [e_x_47]; exact iiA_y (s := other_0) hσ (by first | assumption | decide | omega) _
          try simp (disch := omega) only [w32_of, w64_of, w8_of] at e_x_47
          have c26 := iiA_y (s := other_0) hσ (by first | assumption | decide | omega) i_18
          have c28 := w32_rng x_45
          have c29 := w32_rng x_47
          refine wp_if (fun c27 => ?_) (fun c27 => ?_)
          · try simp (disch := omega) only [w32_of, w64_of, w8_of, decide_eq_true_eq, decide_eq_false_iff_not, Bool.not_eq_true] at c27
            exact wp_some (x_inr (x_inr trivial))
          · try simp (disch := omega) only [w32_of, w64_of, w8_of, decide_eq_true_eq, decide_eq_false_iff_not, Bool.not_eq_true] at c27
            exact wp_some (x_inl ⟨(by (try dsimp only) <;> first | assumption | omega | ((try simp (disch := omega) only [w32_of, w64_of, w8_of]) <;> first | assumption | omega | (split <;> omega) | (refine And.intro ?_ ?_ <;> split <;> omega)) | omega), (by (try dsimp only) <;> first | assumption | omega | ((try simp (disch := omega) only [w32_of, w64_of, w8_of]) <;> first | assumption | omega | (split <;> omega) | (refine And.intro ?_ ?_ <;> split <;> omega)) | omega)⟩)
      · try simp (disch := omega) only [w32_of, w64_of, w8_of, decide_eq_true_eq, decide_eq_false_iff_not, Bool.not_eq_true] at c18
        exact wp_some (x_inr (x_inl (by (try dsimp only) <;> first | assumption | omega | ((try simp (disch := omega) only [w32_of, w64_of, w8_of]) <;> first | assumption | omega | (split <;> omega) | (refine And.intro ?_ ?_ <;> split <;> omega)) | omega)))
    rintro i_52 g30
    exact wp_some trivial
theorem s_E_lowX {σ : SG} {this_0 : Nat} {i_0 : Int} (hσ : II σ) (hE : isE this_0) (w0 : 0 ≤ w32 i_0 ∧ w32 i_0 < ((gsz this_0 : Nat) : Int)) : wp_ (fE_lowX σ this_0 i_0) (fun zz_ => (-1000000000 ≤ zz_ ∧ zz_ ≤ 1000000000)) := by
  unfold fE_lowX
  have hgz := gsz_b hE
  have c1 := w32_rng i_0
  refine wp_rdI (by (try dsimp only) <;> first | assumption | omega | ((try simp (disch := omega) only [w32_of, w64_of, w8_of]) <;> first | assumption | omega | (split <;> omega) | (refine And.intro ?_ ?_ <;> split <;> omega)) | omega) (by (try dsimp only) <;> first | assumption | omega | ((try simp (disch := omega) only [w32_of, w64_of, w8_of]) <;> first | assumption | omega | (split <;> omega) | (refine And.intro ?_ ?_ <;> split <;> omega)) | omega) (fun x_1 e_x_1 => ?_)
  have b_x_1 : (-1000000000) ≤ x_1 ∧ x_1 ≤ 1000000000 := by rw [e_x_1]; exact iiE_ax (s := this_0) hσ hE _
  try simp (disch := omega) only [w32_of, w64_of, w8_of] at e_x_1
  have c2 := iiE_ax (s := this_0) hσ hE i_0
  refine wp_rdI (by (try dsimp only) <;> first | assumption | omega | ((try simp (disch := omega) only [w32_of, w64_of, w8_of]) <;> first | assumption | omega | (split <;> omega) | (refine And.intro ?_ ?_ <;> split <;> omega)) | omega) (by (try dsimp only) <;> first | assumption | omega | ((try simp (disch := omega) only [w32_of, w64_of, w8_of]) <;> first | assumption | omega | (split <;> omega) | (refine And.intro ?_ ?_ <;> split <;> omega)) | omega) (fun x_3 e_x_3 => ?_)
  have b_x_3 : (-1000000000) ≤ x_3 ∧ x_3 ≤ 1000000000 := by rw [e_x_3]; exact iiE_bx (s := this_0) hσ hE _
  try simp (disch := omega) only [w32_of, w64_of, w8_of] at e_x_3
  have c3 := iiE_bx (s := this_0) hσ hE i_0
  have hm := q_mni_bd x_1 x_3
  rw [w32_of (x := x_1) (by omega) (by omega), w32_of (x := x_3) (by omega) (by omega)] at hm
  exact wp_some (by (try dsimp only) <;> first | assumption | omega | ((try simp (disch := omega) only [w32_of, w64_of, w8_of]) <;> first | assumption | omega | (split <;> omega) | (refine And.intro ?_ ?_ <;> split <;> omega)) | omega)
theorem s_E_highX {σ : SG} {this_0 : Nat} {i_0 : Int} (hσ : II σ) (hE : isE this_0) (w0 : 0 ≤ w32 i_0 ∧ w32 i_0 < ((gsz this_0 : Nat) : Int)) : wp_ (fE_highX σ this_0 i_0) (fun zz_ => (-1000000000 ≤ zz_ ∧ zz_ ≤ 1000000000)) := by
  unfold fE_highX
  have hgz := gsz_b hE
  have c1 := w32_rng i_0
  refine wp_rdI (by (try dsimp only) <;> first | assumption | omega | ((try simp (disch := omega) only [w32_of, w64_of, w8_of]) <;> first | assumption | omega | (split <;> omega) | (refine And.intro ?_ ?_ <;> split <;> omega)) | omega) (by (try dsimp only) <;> first | assumption | omega | ((try simp (disch := omega) only [w32_of, w64_of, w8_of]) <;> first | assumption | omega | (split <;> omega) | (refine And.intro ?_ ?_ <;> split <;> omega)) | omega) (fun x_1 e_x_1 => ?_)
  have b_x_1 : (-1000000000) ≤ x_1 ∧ x_1 ≤ 1000000000 := by rw [e_x_1]; exact iiE_ax (s := this_0) hσ hE _
  try simp (disch := omega) only [w32_of, w64_of, w8_of] at e_x_1
  have c2 := iiE_ax (s := this_0) hσ hE i_0
  refine wp_rdI (by (try dsimp only) <;> first | assumption | omega | ((try simp (disch := omega) only [w32_of, w64_of, w8_of]) <;> first | assumption | omega | (split <;> omega) | (refine And.intro ?_ ?_ <;> split <;> omega)) | omega) (by (try dsimp only) <;> first | assumption | omega | ((try simp (disch := omega) only [w32_of, w64_of, w8_of]) <;> first | assumption | omega | (split <;> omega) | (refine And.intro ?_ ?_ <;> split <;> omega)) | omega) (fun x_3 e_x_3 => ?_)
  have b_x_3 : (-1000000000) ≤ x_3 ∧ x_3 ≤ 1000000000 := by rw [e_x_3]; exact iiE_bx (s := this_0) hσ hE _
  try simp (disch := omega) only [w32_of, w64_of, w8_of] at e_x_3
  have c3 := iiE_bx (s := this_0) hσ hE i_0
  have hm := q_mxi_bd x_1 x_3
  rw [w32_of (x := x_1) (by omega) (by omega), w32_of (x := x_3) (by omega) (by omega)] at hm
  exact wp_some (by (try dsimp only) <;> first | assumption | omega | ((try simp (disch := omega) only [w32_of, w64_of, w8_of]) <;> first | assumption | omega | (split <;> omega) | (refine And.intro ?_ ?_ <;> split <;> omega)) | omega)
theorem s_E_lowY {σ : SG} {this_0 : Nat} {i_0 : Int} (hσ : II σ) (hE : isE this_0) (w0 : 0 ≤ w32 i_0 ∧ w32 i_0 < ((gsz this_0 : Nat) : Int)) : wp_ (fE_lowY σ this_0 i_0) (fun zz_ => (-1000000000 ≤ zz_ ∧ zz_ ≤ 1000000000)) := by
  unfold fE_lowY
  have hgz := gsz_b hE
  have c1 := w32_rng i_0
  refine wp_rdI (by (try dsimp only) <;> first | assumption | omega | ((try simp (disch := omega) only [w32_of, w64_of, w8_of]) <;> first | assumption | omega | (split <;> omega) | (refine And.intro ?_ ?_ <;> split <;> omega)) | omega) (by (try dsimp only) <;> first | assumption | omega | ((try simp (disch := omega) only [w32_of, w64_of, w8_of]) <;> first | assumption | omega | (split <;> omega) | (refine And.intro ?_ ?_ <;> split <;> omega)) | omega) (fun x_1 e_x_1 => ?_)
  have b_x_1 : (-1000000000) ≤ x_1 ∧ x_1 ≤ 1000000000 := by rw [e_x_1]; exact iiE_ay (s := this_0) hσ hE _
  try simp (disch := omega) only [w32_of, w64_of, w8_of] at e_x_1
  have c2 := iiE_ay (s := this_0) hσ hE i_0
  refine wp_rdI (by (try dsimp only) <;> first | assumption | omega | ((try simp (disch := omega) only [w32_of, w64_of, w8_of]) <;> first | assumption | omega | (split <;> omega) | (refine And.intro ?_ ?_ <;> split <;> omega)) | omega) (by (try dsimp only) <;> first | assumption | omega | ((try simp (disch := omega) only [w32_of, w64_of, w8_of]) <;> first | assumption | omega | (split <;> omega) | (refine And.intro ?_ ?_ <;> split <;> omega)) | omega) (fun x_3 e_x_3 => ?_)
  have b_x_3 : (-1000000000) ≤ x_3 ∧ x_3 ≤ 1000000000 := by rw [e_x_3]; exact iiE_by (s := this_0) hσ hE _
  try simp (disch := omega) only [w32_of, w64_of, w8_of] at e_x_3
  have c3 := iiE_by (s := this_0) hσ hE i_0
  have hm := q_mni_bd x_1 x_3
  rw [w32_of (x := x_1) (by omega) (by omega), w32_of (x := x_3) (by omega) (by omega)] at hm
  exact wp_some (by (try dsimp only) <;> first | assumption | omega | ((try simp (disch := omega) only [w32_of, w64_of, w8_of]) <;> first | assumption | omega | (split <;> omega) | (refine And.intro ?_ ?_ <;> split <;> omega)) | omega)
theorem s_E_highY {σ : SG} {this_0 : Nat} {i_0 : Int} (hσ : II σ) (hE : isE this_0) (w0 : 0 ≤ w32 i_0 ∧ w32 i_0 < ((gsz this_0 : Nat) : Int)) : wp_ (fE_highY σ this_0 i_0) (fun zz_ => (-1000000000 ≤ zz_ ∧ zz_ ≤ 1000000000)) := by
  unfold fE_highY
  have hgz := gsz_b hE
  have c1 := w32_rng i_0
  refine wp_rdI (by (try dsimp only) <;> first | assumption | omega | ((try simp (disch := omega) only [w32_of, w64_of, w8_of]) <;> first | assumption | omega | (split <;> omega) | (refine And.intro ?_ ?_ <;> split <;> omega)) | omega) (by (try dsimp only) <;> first | assumption | omega | ((try simp (disch := omega) only [w32_of, w64_of, w8_of]) <;> first | assumption | omega | (split <;> omega) | (refine And.intro ?_ ?_ <;> split <;> omega)) | omega) (fun x_1 e_x_1 => ?_)
  have b_x_1 : (-1000000000) ≤ x_1 ∧ x_1 ≤ 1000000000 := by rw [e_x_1]; exact iiE_ay (s := this_0) hσ hE _
  try simp (disch := omega) only [w32_of, w64_of, w8_of] at e_x_1
  have c2 := iiE_ay (s := this_0) hσ hE i_0
  refine wp_rdI (by (try dsimp only) <;> first | assumption | omega | ((try simp (disch := omega) only [w32_of, w64_of, w8_of]) <;> first | assumption | omega | (split <;> omega) | (refine And.intro ?_ ?_ <;> split <;> omega)) | omega) (by (try dsimp only) <;> first | assumption | omega | ((try simp (disch := omega) only [w32_of, w64_of, w8_of]) <;> first | assumption | omega | (split <;> omega) | (refine And.intro ?_ ?_ <;> split <;> omega)) | omega) (fun x_3 e_x_3 => ?_)
  have b_x_3 : (-1000000000) ≤ x_3 ∧ x_3 ≤ 1000000000 := by rw [e_x_3]; exact iiE_by (s := this_0) hσ hE _
  try simp (disch := omega) only [w32_of, w64_of, w8_of] at e_x_3
  have c3 := iiE_by (s := this_0) hσ hE i_0
  have hm := q_mxi_bd x_1 x_3
  rw [w32_of (x := x_1) (by omega) (by omega), w32_of (x := x_3) (by omega) (by omega)] at hm
  exact wp_some (by (try dsimp only) <;> first | assumption | omega | ((try simp (disch := omega) only [w32_of, w64_of, w8_of]) <;> first | assumption | omega | (split <;> omega) | (refine And.intro ?_ ?_ <;> split <;> omega)) | omega)
theorem s_E_begins {σ : SG} {this_0 : Nat} {i_0 : Int} {x_0 : Int} {y_0 : Int} (hσ : II σ) (hE : isE this_0) (w0 : 0 ≤ w32 i_0 ∧ w32 i_0 < ((gsz this_0 : Nat) : Int)) : wp_ (fE_begins σ this_0 i_0 x_0 y_0) (fun zz_ => True) := by
  unfold fE_begins
  have hgz := gsz_b hE
  refine wp_bdk ?_
  have c1 := w32_rng i_0
  refine wp_rdI (by (try dsimp only) <;> first | assumption | omega | ((try simp (disch := omega) only [w32_of, w64_of, w8_of]) <;> first | assumption | omega | (split <;> omega) | (refine And.intro ?_ ?_ <;> split <;> omega)) | omega) (by (try dsimp only) <;> first | assumption | omega | ((try simp (disch := omega) only [w32_of, w64_of, w8_of]) <;> first | assumption | omega | (split <;> omega) | (refine And.intro ?_ ?_ <;> split <;> omega)) | omega) (fun x_1 e_x_1 => ?_)
  have b_x_1 : (-1000000000) ≤ x_1 ∧ x_1 ≤ 1000000000 := by rw [e_x_1]; exact iiE_ax (s := this_0) hσ hE _
  try simp (disch := omega) only [w32_of, w64_of, w8_of] at e_x_1
  have c2 := iiE_ax (s := this_0) hσ hE i_0
  have c4 := w32_rng x_1
  have c5 := w32_rng x_0
  refine wp_if (fun c3 => ?_) (fun c3 => ?_)
  · try simp (disch := omega) only [w32_of, w64_of, w8_of, decide_eq_true_eq, decide_eq_false_iff_not, Bool.not_eq_true] at c3
    refine wp_rdI (by (try dsimp only) <;> first | assumption | omega | ((try simp (disch := omega) only [w32_of, w64_of, w8_of]) <;> first | assumption | omega | (split <;> omega) | (refine And.intro ?_ ?_ <;> split <;> omega)) | omega) (by (try dsimp only) <;> first | assumption | omega | ((try simp (disch := omega) only [w32_of, w64_of, w8_of]) <;> first | assumption | omega | (split <;> omega) | (refine And.intro ?_ ?_ <;> split <;> omega)) | omega) (fun x_4 e_x_4 => ?_)
    have b_x_4 : (-1000000000) ≤ x_4 ∧ x_4 ≤ 1000000000 := by rw [e_x_4]; exact iiE_ay (s := this_0) hσ hE _
    try simp (disch := omega) only [w32_of, w64_of, w8_of] at e_x_4
    have c6 := iiE_ay (s := this_0) hσ hE i_0
    have c8 := w32_rng x_4
    have c9 := w32_rng y_0
    refine wp_if (fun c7 => ?_) (fun c7 => ?_)
    · try simp (disch := omega) only [w32_of, w64_of, w8_of, decide_eq_true_eq, decide_eq_false_iff_not, Bool.not_eq_true] at c7
      refine wp_somek ?_
      try dsimp only
      exact wp_some trivial
    · try simp (disch := omega) only [w32_of, w64_of, w8_of, decide_eq_true_eq, decide_eq_false_iff_not, Bool.not_eq_true] at c7
      refine wp_somek ?_
      try dsimp only
      exact wp_some trivial
  · try simp (disch := omega) only [w32_of, w64_of, w8_of, decide_eq_true_eq, decide_eq_false_iff_not, Bool.not_eq_true] at c3
    refine wp_somek ?_
    try dsimp only
    exact wp_some trivial
theorem s_E_ends {σ : SG} {this_0 : Nat} {i_0 : Int} {x_0 : Int} {y_0 : Int} (hσ : II σ) (hE : isE this_0) (w0 : 0 ≤ w32 i_0 ∧ w32 i_0 < ((gsz this_0 : Nat) : Int)) : wp_ (fE_ends σ this_0 i_0 x_0 y_0) (fun zz_ => True) := by
  unfold fE_ends
  have hgz := gsz_b hE
  refine wp_bdk ?_
  have c1 := w32_rng i_0
  refine wp_rdI (by (try dsimp only) <;> first | assumption | omega | ((try simp (disch := omega) only [w32_of, w64_of, w8_of]) <;> first | assumption | omega | (split <;> omega) | (refine And.intro ?_ ?_ <;> split <;> omega)) | omega) (by (try dsimp only) <;> first | assumption | omega | ((try simp (disch := omega) only [w32_of, w64_of, w8_of]) <;> first | assumption | omega | (split <;> omega) | (refine And.intro ?_ ?_ <;> split <;> omega)) | omega) (fun x_1 e_x_1 => ?_)
  have b_x_1 : (-1000000000) ≤ x_1 ∧ x_1 ≤ 1000000000 := by rw [e_x_1]; exact iiE_bx (s := this_0) hσ hE _
  try simp (disch := omega) only [w32_of, w64_of, w8_of] at e_x_1
  have c2 := iiE_bx (s := this_0) hσ hE i_0
  have c4 := w32_rng x_1
  have c5 := w32_rng x_0
  refine wp_if (fun c3 => ?_) (fun c3 => ?_)
  · try simp (disch := omega) only [w32_of, w64_of, w8_of, decide_eq_true_eq, decide_eq_false_iff_not, Bool.not_eq_true] at c3
    refine wp_rdI (by (try dsimp only) <;> first | assumption | omega | ((try simp (disch := omega) only [w32_of, w64_of, w8_of]) <;> first | assumption | omega | (split <;> omega) | (refine And.intro ?_ ?_ <;> split <;> omega)) | omega) (by (try dsimp only) <;> first | assumption | omega | ((try simp (disch := omega) only [w32_of, w64_of, w8_of]) <;> first | assumption | omega | (split <;> omega) | (refine And.intro ?_ ?_ <;> split <;> omega)) | omega) (fun x_4 e_x_4 => ?_)
    have b_x_4 : (-1000000000) ≤ x_4 ∧ x_4 ≤ 1000000000 := by rw [e_x_4]; exact iiE_by (s := this_0) hσ hE _
    try simp (disch := omega) only [w32_of, w64_of, w8_of] at e_x_4
    have c6 := iiE_by (s := this_0) hσ hE i_0
    have c8 := w32_rng x_4
    have c9 := w32_rng y_0
    refine wp_if (fun c7 => ?_) (fun c7 => ?_)
    · try simp (disch := omega) only [w32_of, w64_of, w8_of, decide_eq_true_eq, decide_eq_false_iff_not, Bool.not_eq_true] at c7
      refine wp_somek ?_
      try dsimp only
      exact wp_some trivial
    · try simp (disch := omega) only [w32_of, w64_of, w8_of, decide_eq_true_eq, decide_eq_false_iff_not, Bool.not_eq_true] at c7
      refine wp_somek ?_
      try dsimp only
      exact wp_some trivial
  · try simp (disch := omega) only [w32_of, w64_of, w8_of, decide_eq_true_eq, decide_eq_false_iff_not, Bool.not_eq_true] at c3
    refine wp_somek ?_
    try dsimp only
    exact wp_some trivial
theorem s_E_areApart {σ : SG} {this_0 : Nat} {i_0 : Int} {j_0 : Int} (hσ : II σ) (hE : isE this_0) (w0 : 0 ≤ w32 i_0 ∧ w32 i_0 < ((gsz this_0 : Nat) : Int)) (w1 : 0 ≤ w32 j_0 ∧ w32 j_0 < ((gsz this_0 : Nat) : Int)) : wp_ (fE_areApart σ this_0 i_0 j_0) (fun zz_ => True) := by
  unfold fE_areApart
  have hgz := gsz_b hE
  refine wp_bdk ?_
  refine wp_bd (s_E_lowX (σ := σ) (this_0 := this_0) (i_0 := i_0) hσ hE (by (try dsimp only) <;> first | assumption | omega | ((try simp (disch := omega) only [w32_of, w64_of, w8_of]) <;> first | assumption | omega | (split <;> omega) | (refine And.intro ?_ ?_ <;> split <;> omega)) | omega)) ?_
  rintro x_2 - g1
  try simp (disch := omega) only [w32_of, w64_of, w8_of] at g1
  refine wp_bd (s_E_highX (σ := σ) (this_0 := this_0) (i_0 := j_0) hσ hE (by (try dsimp only) <;> first | assumption | omega | ((try simp (disch := omega) only [w32_of, w64_of, w8_of]) <;> first | assumption | omega | (split <;> omega) | (refine And.intro ?_ ?_ <;> split <;> omega)) | omega)) ?_
  rintro x_4 - g2
  try simp (disch := omega) only [w32_of, w64_of, w8_of] at g2
  have c4 := w32_rng x_4
  have c5 := w32_rng x_2
  refine wp_if (fun c3 => ?_) (fun c3 => ?_)
  · try simp (disch := omega) only [w32_of, w64_of, w8_of, decide_eq_true_eq, decide_eq_false_iff_not, Bool.not_eq_true] at c3
    refine wp_somek ?_
    try dsimp only
    exact wp_some trivial
  · try simp (disch := omega) only [w32_of, w64_of, w8_of, decide_eq_true_eq, decide_eq_false_iff_not, Bool.not_eq_true] at c3
    refine wp_bd (s_E_lowX (σ := σ) (this_0 := this_0) (i_0 := j_0) hσ hE (by (try dsimp only) <;> first | assumption | omega | ((try simp (disch := omega) only [w32_of, w64_of, w8_of]) <;> first | assumption | omega | (split <;> omega) | (refine And.intro ?_ ?_ <;> split <;> omega)) | omega)) ?_
    rintro x_8 - g6
    try simp (disch := omega) only [w32_of, w64_of, w8_of] at g6
    refine wp_bd (s_E_highX (σ := σ) (this_0 := this_0) (i_0 := i_0) hσ hE (by (try dsimp only) <;> first | assumption | omega | ((try simp (disch := omega) only [w32_of, w64_of, w8_of]) <;> first | assumption | omega | (split <;> omega) | (refine And.intro ?_ ?_ <;> split <;> omega)) | omega)) ?_
    rintro x_10 - g7
    try simp (disch := omega) only [w32_of, w64_of, w8_of] at g7
    have c9 := w32_rng x_10
    have c10 := w32_rng x_8
    refine wp_if (fun c8 => ?_) (fun c8 => ?_)
    · try simp (disch := omega) only [w32_of, w64_of, w8_of, decide_eq_true_eq, decide_eq_false_iff_not, Bool.not_eq_true] at c8
      refine wp_somek ?_
      try dsimp only
      exact wp_some trivial
    · try simp (disch := omega) only [w32_of, w64_of, w8_of, decide_eq_true_eq, decide_eq_false_iff_not, Bool.not_eq_true] at c8
      refine wp_bd (s_E_lowY (σ := σ) (this_0 := this_0) (i_0 := i_0) hσ hE (by (try dsimp only) <;> first | assumption | omega | ((try simp (disch := omega) only [w32_of, w64_of, w8_of]) <;> first | assumption | omega | (split <;> omega) | (refine And.intro ?_ ?_ <;> split <;> omega)) | omega)) ?_
      rintro x_14 - g11
      try simp (disch := omega) only [w32_of, w64_of, w8_of] at g11
      refine wp_bd (s_E_highY (σ := σ) (this_0 := this_0) (i_0 := j_0) hσ hE (by (try dsimp only) <;> first | assumption | omega | ((try simp (disch := omega) only [w32_of, w64_of, w8_of]) <;> first | assumption | omega | (split <;> omega) | (refine And.intro ?_ ?_ <;> split <;> omega)) | omega)) ?_
      rintro x_16 - g12
      try simp (disch := omega) only [w32_of, w64_of, w8_of] at g12
      have c14 := w32_rng x_16
      have c15 := w32_rng x_14
      refine wp_if (fun c13 => ?_) (fun c13 => ?_)
      · try simp (disch := omega) only [w32_of, w64_of, w8_of, decide_eq_true_eq, decide_eq_false_iff_not, Bool.not_eq_true] at c13
        refine wp_somek ?_
        try dsimp only
        exact wp_some trivial
      · try simp (disch := omega) only [w32_of, w64_of, w8_of, decide_eq_true_eq, decide_eq_false_iff_not, Bool.not_eq_true] at c13
        refine wp_bd (s_E_lowY (σ := σ) (this_0 := this_0) (i_0 := j_0) hσ hE (by (try dsimp only) <;> first | assumption | omega | ((try simp (disch := omega) only [w32_of, w64_of, w8_of]) <;> first | assumption | omega | (split <;> omega) | (refine And.intro ?_ ?_ <;> split <;> omega)) | omega)) ?_
        rintro x_20 - g16
        try simp (disch := omega) only [w32_of, w64_of, w8_of] at g16
        refine wp_bd (s_E_highY (σ := σ) (this_0 := this_0) (i_0 := i_0) hσ hE (by (try dsimp only) <;> first | assumption | omega | ((try simp (disch := omega) only [w32_of, w64_of, w8_of]) <;> first | assumption | omega | (split <;> omega) | (refine And.intro ?_ ?_ <;> split <;> omega)) | omega)) ?_
        rintro x_22 - g17
        try simp (disch := omega) only [w32_of, w64_of, w8_of] at g17
        have c19 := w32_rng x_22
        have c20 := w32_rng x_20
        refine wp_if (fun c18 => ?_) (fun c18 => ?_)
        · try simp (disch := omega) only [w32_of, w64_of, w8_of, decide_eq_true_eq, decide_eq_false_iff_not, Bool.not_eq_true] at c18
          refine wp_somek ?_
          try dsimp only
          exact wp_some trivial
        · try simp (disch := omega) only [w32_of, w64_of, w8_of, decide_eq_true_eq, decide_eq_false_iff_not, Bool.not_eq_true] at c18
          refine wp_somek ?_
          try dsimp only
          exact wp_some trivial
theorem s_E_turn {σ : SG} {this_0 : Nat} {i_0 : Int} {x_0 : Int} {y_0 : Int} (hσ : II σ) (hE : isE this_0) (w0 : 0 ≤ w32 i_0 ∧ w32 i_0 < ((gsz this_0 : Nat) : Int)) (w1 : -1000000000 ≤ x_0 ∧ x_0 ≤ 1000000000) (w2 : -1000000000 ≤ y_0 ∧ y_0 ≤ 1000000000) : wp_ (fE_turn σ this_0 i_0 x_0 y_0) (fun zz_ => (zz_ = sgc3 (TE σ this_0 (w32 i_0) x_0 y_0)) ∧ (-1 ≤ zz_ ∧ zz_ ≤ 1)) := by
  unfold fE_turn
  have hgz := gsz_b hE
  have c1 := w32_rng i_0
  refine wp_rdI (by (try dsimp only) <;> first | assumption | omega | ((try simp (disch := omega) only [w32_of, w64_of, w8_of]) <;> first | assumption | omega | (split <;> omega) | (refine And.intro ?_ ?_ <;> split <;> omega)) | omega) (by (try dsimp only) <;> first | assumption | omega | ((try simp (disch := omega) only [w32_of, w64_of, w8_of]) <;> first | assumption | omega | (split <;> omega) | (refine And.intro ?_ ?_ <;> split <;> omega)) | omega) (fun x_1 e_x_1 => ?_)
  have b_x_1 : (-1000000000) ≤ x_1 ∧ x_1 ≤ 1000000000 := by rw [e_x_1]; exact iiE_ax (s := this_0) hσ hE _
  try simp (disch := omega) only [w32_of, w64_of, w8_of] at e_x_1
  have c2 := iiE_ax (s := this_0) hσ hE i_0
  refine wp_rdI (by (try dsimp only) <;> first | assumption | omega | ((try simp (disch := omega) only [w32_of, w64_of, w8_of]) <;> first | assumption | omega | (split <;> omega) | (refine And.intro ?_ ?_ <;> split <;> omega)) | omega) (by (try dsimp only) <;> first | assumption | omega | ((try simp (disch := omega) only [w32_of, w64_of, w8_of]) <;> first | assumption | omega | (split <;> omega) | (refine And.intro ?_ ?_ <;> split <;> omega)) | omega) (fun x_3 e_x_3 => ?_)
  have b_x_3 : (-1000000000) ≤ x_3 ∧ x_3 ≤ 1000000000 := by rw [e_x_3]; exact iiE_ay (s := this_0) hσ hE _
  try simp (disch := omega) only [w32_of, w64_of, w8_of] at e_x_3
  have c3 := iiE_ay (s := this_0) hσ hE i_0
  refine wp_rdI (by (try dsimp only) <;> first | assumption | omega | ((try simp (disch := omega) only [w32_of, w64_of, w8_of]) <;> first | assumption | omega | (split <;> omega) | (refine And.intro ?_ ?_ <;> split <;> omega)) | omega) (by (try dsimp only) <;> first | assumption | omega | ((try simp (disch := omega) only [w32_of, w64_of, w8_of]) <;> first | assumption | omega | (split <;> omega) | (refine And.intro ?_ ?_ <;> split <;> omega)) | omega) (fun x_5 e_x_5 => ?_)
  have b_x_5 : (-1000000000) ≤ x_5 ∧ x_5 ≤ 1000000000 := by rw [e_x_5]; exact iiE_bx (s := this_0) hσ hE _
  try simp (disch := omega) only [w32_of, w64_of, w8_of] at e_x_5
  have c4 := iiE_bx (s := this_0) hσ hE i_0
  refine wp_rdI (by (try dsimp only) <;> first | assumption | omega | ((try simp (disch := omega) only [w32_of, w64_of, w8_of]) <;> first | assumption | omega | (split <;> omega) | (refine And.intro ?_ ?_ <;> split <;> omega)) | omega) (by (try dsimp only) <;> first | assumption | omega | ((try simp (disch := omega) only [w32_of, w64_of, w8_of]) <;> first | assumption | omega | (split <;> omega) | (refine And.intro ?_ ?_ <;> split <;> omega)) | omega) (fun x_7 e_x_7 => ?_)
  have b_x_7 : (-1000000000) ≤ x_7 ∧ x_7 ≤ 1000000000 := by rw [e_x_7]; exact iiE_by (s := this_0) hσ hE _
  try simp (disch := omega) only [w32_of, w64_of, w8_of] at e_x_7
  have c5 := iiE_by (s := this_0) hσ hE i_0
  exact wp_some ⟨(by (try dsimp only) <;> (simp (disch := omega) only [w32_of]; rw [turnQ (by omega) (by omega) (by omega) (by omega) (by omega) (by omega), e_x_1, e_x_3, e_x_5, e_x_7]; rfl)), (by (try dsimp only) <;> (simp (disch := omega) only [w32_of]; rw [turnQ (by omega) (by omega) (by omega) (by omega) (by omega) (by omega)]; exact sgc3_b _))⟩
theorem s_E_holds {σ : SG} {this_0 : Nat} {i_0 : Int} {x_0 : Int} {y_0 : Int} (hσ : II σ) (hE : isE this_0) (w0 : 0 ≤ w32 i_0 ∧ w32 i_0 < ((gsz this_0 : Nat) : Int)) : wp_ (fE_holds σ this_0 i_0 x_0 y_0) (fun zz_ => True) := by
  unfold fE_holds
  have hgz := gsz_b hE
  have c1 := w32_rng i_0
  refine wp_rdI (by (try dsimp only) <;> first | assumption | omega | ((try simp (disch := omega) only [w32_of, w64_of, w8_of]) <;> first | assumption | omega | (split <;> omega) | (refine And.intro ?_ ?_ <;> split <;> omega)) | omega) (by (try dsimp only) <;> first | assumption | omega | ((try simp (disch := omega) only [w32_of, w64_of, w8_of]) <;> first | assumption | omega | (split <;> omega) | (refine And.intro ?_ ?_ <;> split <;> omega)) | omega) (fun x_1 e_x_1 => ?_)
  have b_x_1 : (-1000000000) ≤ x_1 ∧ x_1 ≤ 1000000000 := by rw [e_x_1]; exact iiE_ax (s := this_0) hσ hE _
  try simp (disch := omega) only [w32_of, w64_of, w8_of] at e_x_1
  have c2 := iiE_ax (s := this_0) hσ hE i_0
  refine wp_rdI (by (try dsimp only) <;> first | assumption | omega | ((try simp (disch := omega) only [w32_of, w64_of, w8_of]) <;> first | assumption | omega | (split <;> omega) | (refine And.intro ?_ ?_ <;> split <;> omega)) | omega) (by (try dsimp only) <;> first | assumption | omega | ((try simp (disch := omega) only [w32_of, w64_of, w8_of]) <;> first | assumption | omega | (split <;> omega) | (refine And.intro ?_ ?_ <;> split <;> omega)) | omega) (fun x_3 e_x_3 => ?_)
  have b_x_3 : (-1000000000) ≤ x_3 ∧ x_3 ≤ 1000000000 := by rw [e_x_3]; exact iiE_ay (s := this_0) hσ hE _
  try simp (disch := omega) only [w32_of, w64_of, w8_of] at e_x_3
  have c3 := iiE_ay (s := this_0) hσ hE i_0
  refine wp_rdI (by (try dsimp only) <;> first | assumption | omega | ((try simp (disch := omega) only [w32_of, w64_of, w8_of]) <;> first | assumption | omega | (split <;> omega) | (refine And.intro ?_ ?_ <;> split <;> omega)) | omega) (by (try dsimp only) <;> first | assumption | omega | ((try simp (disch := omega) only [w32_of, w64_of, w8_of]) <;> first | assumption | omega | (split <;> omega) | (refine And.intro ?_ ?_ <;> split <;> omega)) | omega) (fun x_5 e_x_5 => ?_)
  have b_x_5 : (-1000000000) ≤ x_5 ∧ x_5 ≤ 1000000000 := by rw [e_x_5]; exact iiE_bx (s := this_0) hσ hE _
  try simp (disch := omega) only [w32_of, w64_of, w8_of] at e_x_5
  have c4 := iiE_bx (s := this_0) hσ hE i_0
  refine wp_rdI (by (try dsimp only) <;> first | assumption | omega | ((try simp (disch := omega) only [w32_of, w64_of, w8_of]) <;> first | assumption | omega | (split <;> omega) | (refine And.intro ?_ ?_ <;> split <;> omega)) | omega) (by (try dsimp only) <;> first | assumption | omega | ((try simp (disch := omega) only [w32_of, w64_of, w8_of]) <;> first | assumption | omega | (split <;> omega) | (refine And.intro ?_ ?_ <;> split <;> omega)) | omega) (fun x_7 e_x_7 => ?_)
  have b_x_7 : (-1000000000) ≤ x_7 ∧ x_7 ≤ 1000000000 := by rw [e_x_7]; exact iiE_by (s := this_0) hσ hE _
  try simp (disch := omega) only [w32_of, w64_of, w8_of] at e_x_7
  have c5 := iiE_by (s := this_0) hσ hE i_0
  exact wp_some trivial
theorem s_E_touchAtEnd {σ : SG} {this_0 : Nat} {i_0 : Int} {atBegin_0 : Bool} (hσ : II σ) (hE : isE this_0) (w0 : 0 ≤ w32 i_0 ∧ w32 i_0 < ((gsz this_0 : Nat) : Int)) : wp_ (fE_touchAtEnd σ this_0 i_0 atBegin_0) (fun zz_ => II zz_.2 ∧ FC [(kE_placeX this_0), (kE_placeY this_0)] [] σ zz_.2 ∧ (zz_.1 = 2)) := by
  unfold fE_touchAtEnd
  have hgz := gsz_b hE
  refine wp_bd (P := fun rr_ => ((-1000000000) ≤ rr_ ∧ rr_ ≤ 1000000000)) ?_ ?_
  · refine wp_if (fun c1 => ?_) (fun c1 => ?_)
    · try simp (disch := omega) only [w32_of, w64_of, w8_of, decide_eq_true_eq, decide_eq_false_iff_not, Bool.not_eq_true] at c1
      have c2 := w32_rng i_0
      refine wp_rdI (by (try dsimp only) <;> first | assumption | omega | ((try simp (disch := omega) only [w32_of, w64_of, w8_of]) <;> first | assumption | omega | (split <;> omega) | (refine And.intro ?_ ?_ <;> split <;> omega)) | omega) (by (try dsimp only) <;> first | assumption | omega | ((try simp (disch := omega) only [w32_of, w64_of, w8_of]) <;> first | assumption | omega | (split <;> omega) | (refine And.intro ?_ ?_ <;> split <;> omega)) | omega) (fun x_6 e_x_6 => ?_)
      have b_x_6 : (-1000000000) ≤ x_6 ∧ x_6 ≤ 1000000000 := by rw [e_x_6]; exact iiE_ax (s := this_0) hσ hE _
      try simp (disch := omega) only [w32_of, w64_of, w8_of] at e_x_6
      have c3 := iiE_ax (s := this_0) hσ hE i_0
      exact wp_some (by (try dsimp only) <;> first | assumption | omega | ((try simp (disch := omega) only [w32_of, w64_of, w8_of]) <;> first | assumption | omega | (split <;> omega) | (refine And.intro ?_ ?_ <;> split <;> omega)) | omega)
    · try simp (disch := omega) only [w32_of, w64_of, w8_of, decide_eq_true_eq, decide_eq_false_iff_not, Bool.not_eq_true] at c1
      have c4 := w32_rng i_0
      refine wp_rdI (by (try dsimp only) <;> first | assumption | omega | ((try simp (disch := omega) only [w32_of, w64_of, w8_of]) <;> first | assumption | omega | (split <;> omega) | (refine And.intro ?_ ?_ <;> split <;> omega)) | omega) (by (try dsimp only) <;> first | assumption | omega | ((try simp (disch := omega) only [w32_of, w64_of, w8_of]) <;> first | assumption | omega | (split <;> omega) | (refine And.intro ?_ ?_ <;> split <;> omega)) | omega) (fun x_9 e_x_9 => ?_)
      have b_x_9 : (-1000000000) ≤ x_9 ∧ x_9 ≤ 1000000000 := by rw [e_x_9]; exact iiE_bx (s := this_0) hσ hE _
      try simp (disch := omega) only [w32_of, w64_of, w8_of] at e_x_9
      have c5 := iiE_bx (s := this_0) hσ hE i_0
      exact wp_some (by (try dsimp only) <;> first | assumption | omega | ((try simp (disch := omega) only [w32_of, w64_of, w8_of]) <;> first | assumption | omega | (split <;> omega) | (refine And.intro ?_ ?_ <;> split <;> omega)) | omega)
  rintro x_12 _ g6
  refine wp_wfI hσ (bE_placeX (s := this_0) hE) (by (try dsimp only) <;> first | assumption | omega | ((try simp (disch := omega) only [w32_of, w64_of, w8_of]) <;> first | assumption | omega | (split <;> omega) | (refine And.intro ?_ ?_ <;> split <;> omega)) | omega) (fun σ_13 hσ_13 eσ_13 => ?_)
  try simp (disch := omega) only [w32_of, w64_of, w8_of] at eσ_13
  have flσ_13 := FC_sg eσ_13 (by first | decide | (rcases hE with rfl | rfl | rfl <;> decide))
  have frσ_13 : FC [(kE_placeX this_0), (kE_placeY this_0)] [] σ σ_13 := FC_le flσ_13 (by first | decide | (rcases hE with rfl | rfl | rfl <;> decide)) (by simp)
  refine wp_bd (P := fun rr_ => ((-1000000000) ≤ rr_ ∧ rr_ ≤ 1000000000)) ?_ ?_
  · refine wp_if (fun c7 => ?_) (fun c7 => ?_)
    · try simp (disch := omega) only [w32_of, w64_of, w8_of, decide_eq_true_eq, decide_eq_false_iff_not, Bool.not_eq_true] at c7
      have c8 := w32_rng i_0
      refine wp_rdI (by (try dsimp only) <;> first | assumption | omega | ((try simp (disch := omega) only [w32_of, w64_of, w8_of]) <;> first | assumption | omega | (split <;> omega) | (refine And.intro ?_ ?_ <;> split <;> omega)) | omega) (by (try dsimp only) <;> first | assumption | omega | ((try simp (disch := omega) only [w32_of, w64_of, w8_of]) <;> first | assumption | omega | (split <;> omega) | (refine And.intro ?_ ?_ <;> split <;> omega)) | omega) (fun x_19 e_x_19 => ?_)
      have b_x_19 : (-1000000000) ≤ x_19 ∧ x_19 ≤ 1000000000 := by rw [e_x_19]; exact iiE_ay (s := this_0) hσ_13 hE _
      rw [FC_at frσ_13 (c := (kE_ay this_0)) (by first | decide | (rcases hE with rfl | rfl | rfl <;> decide))] at e_x_19
      try simp (disch := omega) only [w32_of, w64_of, w8_of] at e_x_19
      have c9 := iiE_ay (s := this_0) hσ_13 hE i_0
      have c10 := (congrFun (congrFun eσ_13 (kE_ay this_0)) i_0).trans (sg_nc (ncE_ay_placeX _))
      have c11 := iiE_ay (s := this_0) hσ hE i_0
      exact wp_some (by (try dsimp only) <;> first | assumption | omega | ((try simp (disch := omega) only [w32_of, w64_of, w8_of]) <;> first | assumption | omega | (split <;> omega) | (refine And.intro ?_ ?_ <;> split <;> omega)) | omega)
    · try simp (disch := omega) only [w32_of, w64_of, w8_of, decide_eq_true_eq, decide_eq_false_iff_not, Bool.not_eq_true] at c7
      have c12 := w32_rng i_0
      refine wp_rdI (by (try dsimp only) <;> first | assumption | omega | ((try simp (disch := omega) only [w32_of, w64_of, w8_of]) <;> first | assumption | omega | (split <;> omega) | (refine And.intro ?_ ?_ <;> split <;> omega)) | omega) (by (try dsimp only) <;> first | assumption | omega | ((try simp (disch := omega) only [w32_of, w64_of, w8_of]) <;> first | assumption | omega | (split <;> omega) | (refine And.intro ?_ ?_ <;> split <;> omega)) | omega) (fun x_22 e_x_22 => ?_)
      have b_x_22 : (-1000000000) ≤ x_22 ∧ x_22 ≤ 1000000000 := by rw [e_x_22]; exact iiE_by (s := this_0) hσ_13 hE _
      rw [FC_at frσ_13 (c := (kE_by this_0)) (by first | decide | (rcases hE with rfl | rfl | rfl <;> decide))] at e_x_22
      try simp (disch := omega) only [w32_of, w64_of, w8_of] at e_x_22
      have c13 := iiE_by (s := this_0) hσ_13 hE i_0
      have c14 := (congrFun (congrFun eσ_13 (kE_by this_0)) i_0).trans (sg_nc (ncE_by_placeX _))
      have c15 := iiE_by (s := this_0) hσ hE i_0
      exact wp_some (by (try dsimp only) <;> first | assumption | omega | ((try simp (disch := omega) only [w32_of, w64_of, w8_of]) <;> first | assumption | omega | (split <;> omega) | (refine And.intro ?_ ?_ <;> split <;> omega)) | omega)
  rintro x_25 _ g16
  refine wp_wfI hσ_13 (bE_placeY (s := this_0) hE) (by (try dsimp only) <;> first | assumption | omega | ((try simp (disch := omega) only [w32_of, w64_of, w8_of]) <;> first | assumption | omega | (split <;> omega) | (refine And.intro ?_ ?_ <;> split <;> omega)) | omega) (fun σ_26 hσ_26 eσ_26 => ?_)
  try simp (disch := omega) only [w32_of, w64_of, w8_of] at eσ_26
  have flσ_26 := FC_sg eσ_26 (by first | decide | (rcases hE with rfl | rfl | rfl <;> decide))
  have frσ_26 : FC [(kE_placeX this_0), (kE_placeY this_0)] [] σ σ_26 := FC_tr frσ_13 flσ_26 (by first | decide | (rcases hE with rfl | rfl | rfl <;> decide)) (by first | decide | (rcases hE with rfl | rfl | rfl <;> decide)) (by simp) (by simp)
  exact wp_some ⟨hσ_26, frσ_26, (by (try dsimp only) <;> first | assumption | omega | ((try simp (disch := omega) only [w32_of, w64_of, w8_of]) <;> first | assumption | omega | (split <;> omega) | (refine And.intro ?_ ?_ <;> split <;> omega)) | omega)⟩
theorem s_E_meetOnOneLine {σ : SG} {this_0 : Nat} {i_0 : Int} {j_0 : Int} (hσ : II σ) (hE : isE this_0) (w0 : 0 ≤ w32 i_0 ∧ w32 i_0 < ((gsz this_0 : Nat) : Int)) (w1 : 0 ≤ w32 j_0 ∧ w32 j_0 < ((gsz this_0 : Nat) : Int)) : wp_ (fE_meetOnOneLine σ this_0 i_0 j_0) (fun zz_ => II zz_.2 ∧ FC [(kE_placeX this_0), (kE_placeY this_0)] [] σ zz_.2 ∧ (0 ≤ zz_.1 ∧ zz_.1 ≤ 3 ∧ ¬ zz_.1 = 1)) := by
  unfold fE_meetOnOneLine
  have hgz := gsz_b hE
  refine wp_bdk ?_
  have c1 := w32_rng i_0
  refine wp_rdI (by (try dsimp only) <;> first | assumption | omega | ((try simp (disch := omega) only [w32_of, w64_of, w8_of]) <;> first | assumption | omega | (split <;> omega) | (refine And.intro ?_ ?_ <;> split <;> omega)) | omega) (by (try dsimp only) <;> first | assumption | omega | ((try simp (disch := omega) only [w32_of, w64_of, w8_of]) <;> first | assumption | omega | (split <;> omega) | (refine And.intro ?_ ?_ <;> split <;> omega)) | omega) (fun x_1 e_x_1 => ?_)
  have b_x_1 : (-1000000000) ≤ x_1 ∧ x_1 ≤ 1000000000 := by rw [e_x_1]; exact iiE_ax (s := this_0) hσ hE _
  try simp (disch := omega) only [w32_of, w64_of, w8_of] at e_x_1
  have c2 := iiE_ax (s := this_0) hσ hE i_0
  refine wp_rdI (by (try dsimp only) <;> first | assumption | omega | ((try simp (disch := omega) only [w32_of, w64_of, w8_of]) <;> first | assumption | omega | (split <;> omega) | (refine And.intro ?_ ?_ <;> split <;> omega)) | omega) (by (try dsimp only) <;> first | assumption | omega | ((try simp (disch := omega) only [w32_of, w64_of, w8_of]) <;> first | assumption | omega | (split <;> omega) | (refine And.intro ?_ ?_ <;> split <;> omega)) | omega) (fun x_3 e_x_3 => ?_)
  have b_x_3 : (-1000000000) ≤ x_3 ∧ x_3 ≤ 1000000000 := by rw [e_x_3]; exact iiE_bx (s := this_0) hσ hE _
  try simp (disch := omega) only [w32_of, w64_of, w8_of] at e_x_3
  have c3 := iiE_bx (s := this_0) hσ hE i_0
  have c5 := w32_rng x_1
  have c6 := w32_rng x_3
  refine wp_if (fun c4 => ?_) (fun c4 => ?_)
  · try simp (disch := omega) only [w32_of, w64_of, w8_of, decide_eq_true_eq, decide_eq_false_iff_not, Bool.not_eq_true] at c4
    refine wp_somek ?_
    try dsimp only
    refine wp_bd (P := fun rr_ => ((-1000000000) ≤ rr_ ∧ rr_ ≤ 1000000000)) ?_ ?_
    · refine wp_tt ?_
      refine wp_bd (s_E_lowY (σ := σ) (this_0 := this_0) (i_0 := i_0) hσ hE (by (try dsimp only) <;> first | assumption | omega | ((try simp (disch := omega) only [w32_of, w64_of, w8_of]) <;> first | assumption | omega | (split <;> omega) | (refine And.intro ?_ ?_ <;> split <;> omega)) | omega)) ?_
      rintro x_19 - g7
      try simp (disch := omega) only [w32_of, w64_of, w8_of] at g7
      refine wp_bd (s_E_lowY (σ := σ) (this_0 := this_0) (i_0 := j_0) hσ hE (by (try dsimp only) <;> first | assumption | omega | ((try simp (disch := omega) only [w32_of, w64_of, w8_of]) <;> first | assumption | omega | (split <;> omega) | (refine And.intro ?_ ?_ <;> split <;> omega)) | omega)) ?_
      rintro x_21 - g8
      try simp (disch := omega) only [w32_of, w64_of, w8_of] at g8
      have c9 := q_mxi_bd x_19 x_21
      try simp (disch := omega) only [w32_of, w64_of, w8_of] at c9
      exact wp_some (by (try dsimp only) <;> first | assumption | omega | ((try simp (disch := omega) only [w32_of, w64_of, w8_of]) <;> first | assumption | omega | (split <;> omega) | (refine And.intro ?_ ?_ <;> split <;> omega)) | omega)
    rintro x_28 _ g10
    refine wp_bd (P := fun rr_ => ((-1000000000) ≤ rr_ ∧ rr_ ≤ 1000000000)) ?_ ?_
    · refine wp_tt ?_
      refine wp_bd (s_E_highY (σ := σ) (this_0 := this_0) (i_0 := i_0) hσ hE (by (try dsimp only) <;> first | assumption | omega | ((try simp (disch := omega) only [w32_of, w64_of, w8_of]) <;> first | assumption | omega | (split <;> omega) | (refine And.intro ?_ ?_ <;> split <;> omega)) | omega)) ?_
      rintro x_39 - g11
      try simp (disch := omega) only [w32_of, w64_of, w8_of] at g11
      refine wp_bd (s_E_highY (σ := σ) (this_0 := this_0) (i_0 := j_0) hσ hE (by (try dsimp only) <;> first | assumption | omega | ((try simp (disch := omega) only [w32_of, w64_of, w8_of]) <;> first | assumption | omega | (split <;> omega) | (refine And.intro ?_ ?_ <;> split <;> omega)) | omega)) ?_
      rintro x_41 - g12
      try simp (disch := omega) only [w32_of, w64_of, w8_of] at g12
      have c13 := q_mni_bd x_39 x_41
      try simp (disch := omega) only [w32_of, w64_of, w8_of] at c13
      exact wp_some (by (try dsimp only) <;> first | assumption | omega | ((try simp (disch := omega) only [w32_of, w64_of, w8_of]) <;> first | assumption | omega | (split <;> omega) | (refine And.intro ?_ ?_ <;> split <;> omega)) | omega)
    rintro x_48 _ g14
    have c16 := w32_rng x_48
    have c17 := w32_rng x_28
    refine wp_if (fun c15 => ?_) (fun c15 => ?_)
    · try simp (disch := omega) only [w32_of, w64_of, w8_of, decide_eq_true_eq, decide_eq_false_iff_not, Bool.not_eq_true] at c15
      exact wp_some ⟨hσ, (FC_refl _ _ _), (by (try dsimp only) <;> first | assumption | omega | ((try simp (disch := omega) only [w32_of, w64_of, w8_of]) <;> first | assumption | omega | (split <;> omega) | (refine And.intro ?_ ?_ <;> split <;> omega)) | omega)⟩
    · try simp (disch := omega) only [w32_of, w64_of, w8_of, decide_eq_true_eq, decide_eq_false_iff_not, Bool.not_eq_true] at c15
      refine wp_bd (P := fun rr_ => (2 ≤ rr_.1 ∧ rr_.1 ≤ 3) ∧ II rr_.2 ∧ FC [(kE_placeX this_0), (kE_placeY this_0)] [] σ rr_.2) ?_ ?_
      · refine wp_if (fun c18 => ?_) (fun c18 => ?_)
        · try simp (disch := omega) only [w32_of, w64_of, w8_of, decide_eq_true_eq, decide_eq_false_iff_not, Bool.not_eq_true] at c18
          exact wp_some ⟨(by (try dsimp only) <;> first | assumption | omega | ((try simp (disch := omega) only [w32_of, w64_of, w8_of]) <;> first | assumption | omega | (split <;> omega) | (refine And.intro ?_ ?_ <;> split <;> omega)) | omega), hσ, (FC_refl _ _ _)⟩
        · try simp (disch := omega) only [w32_of, w64_of, w8_of, decide_eq_true_eq, decide_eq_false_iff_not, Bool.not_eq_true] at c18
          refine wp_bdk ?_
          refine wp_bd (P := fun rr_ => ((-1000000000) ≤ rr_ ∧ rr_ ≤ 1000000000)) ?_ ?_
          · refine wp_tt ?_
            refine wp_rdI (by (try dsimp only) <;> first | assumption | omega | ((try simp (disch := omega) only [w32_of, w64_of, w8_of]) <;> first | assumption | omega | (split <;> omega) | (refine And.intro ?_ ?_ <;> split <;> omega)) | omega) (by (try dsimp only) <;> first | assumption | omega | ((try simp (disch := omega) only [w32_of, w64_of, w8_of]) <;> first | assumption | omega | (split <;> omega) | (refine And.intro ?_ ?_ <;> split <;> omega)) | omega) (fun x_84 e_x_84 => ?_)
            have b_x_84 : (-1000000000) ≤ x_84 ∧ x_84 ≤ 1000000000 := by rw [e_x_84]; exact iiE_ay (s := this_0) hσ hE _
            try simp (disch := omega) only [w32_of, w64_of, w8_of] at e_x_84
            have c19 := iiE_ay (s := this_0) hσ hE i_0
            exact wp_some (by (try dsimp only) <;> first | assumption | omega | ((try simp (disch := omega) only [w32_of, w64_of, w8_of]) <;> first | assumption | omega | (split <;> omega) | (refine And.intro ?_ ?_ <;> split <;> omega)) | omega)
          rintro x_90 _ g20
          have c22 := w32_rng x_90
          refine wp_if (fun c21 => ?_) (fun c21 => ?_)
          · try simp (disch := omega) only [w32_of, w64_of, w8_of, decide_eq_true_eq, decide_eq_false_iff_not, Bool.not_eq_true] at c21
            refine wp_somek ?_
            try dsimp only
            refine wp_bd (s_E_touchAtEnd (σ := σ) (this_0 := this_0) (i_0 := i_0) (atBegin_0 := true) hσ hE (by (try dsimp only) <;> first | assumption | omega | ((try simp (disch := omega) only [w32_of, w64_of, w8_of]) <;> first | assumption | omega | (split <;> omega) | (refine And.intro ?_ ?_ <;> split <;> omega)) | omega)) ?_
            rintro ⟨x_101, σ_100⟩ - y24
            try dsimp only at y24 ⊢
            obtain ⟨hσ_100, flσ_100, g23⟩ := y24
            have frσ_100 : FC [(kE_placeX this_0), (kE_placeY this_0)] [] σ σ_100 := FC_le flσ_100 (by first | decide | (rcases hE with rfl | rfl | rfl <;> decide)) (by simp)
            try simp (disch := omega) only [w32_of, w64_of, w8_of] at g23
            exact wp_some ⟨(by (try dsimp only) <;> first | assumption | omega | ((try simp (disch := omega) only [w32_of, w64_of, w8_of]) <;> first | assumption | omega | (split <;> omega) | (refine And.intro ?_ ?_ <;> split <;> omega)) | omega), hσ_100, frσ_100⟩
          · try simp (disch := omega) only [w32_of, w64_of, w8_of, decide_eq_true_eq, decide_eq_false_iff_not, Bool.not_eq_true] at c21
            refine wp_somek ?_
            try dsimp only
            refine wp_bd (s_E_touchAtEnd (σ := σ) (this_0 := this_0) (i_0 := i_0) (atBegin_0 := false) hσ hE (by (try dsimp only) <;> first | assumption | omega | ((try simp (disch := omega) only [w32_of, w64_of, w8_of]) <;> first | assumption | omega | (split <;> omega) | (refine And.intro ?_ ?_ <;> split <;> omega)) | omega)) ?_
            rintro ⟨x_101, σ_100⟩ - y26
            try dsimp only at y26 ⊢
            obtain ⟨hσ_100, flσ_100, g25⟩ := y26
            have frσ_100 : FC [(kE_placeX this_0), (kE_placeY this_0)] [] σ σ_100 := FC_le flσ_100 (by first | decide | (rcases hE with rfl | rfl | rfl <;> decide)) (by simp)
            try simp (disch := omega) only [w32_of, w64_of, w8_of] at g25
            exact wp_some ⟨(by (try dsimp only) <;> first | assumption | omega | ((try simp (disch := omega) only [w32_of, w64_of, w8_of]) <;> first | assumption | omega | (split <;> omega) | (refine And.intro ?_ ?_ <;> split <;> omega)) | omega), hσ_100, frσ_100⟩
      rintro ⟨x_107, σ_108⟩ _ y28
      try dsimp only at y28 ⊢
      obtain ⟨g27, hσ_108, frσ_108⟩ := y28
      exact wp_some ⟨hσ_108, frσ_108, (by (try dsimp only) <;> first | assumption | omega | ((try simp (disch := omega) only [w32_of, w64_of, w8_of]) <;> first | assumption | omega | (split <;> omega) | (refine And.intro ?_ ?_ <;> split <;> omega)) | omega)⟩
  · try simp (disch := omega) only [w32_of, w64_of, w8_of, decide_eq_true_eq, decide_eq_false_iff_not, Bool.not_eq_true] at c4
    refine wp_somek ?_
    try dsimp only
    refine wp_bd (P := fun rr_ => ((-1000000000) ≤ rr_ ∧ rr_ ≤ 1000000000)) ?_ ?_
    · refine wp_ft ?_
      refine wp_bd (s_E_lowX (σ := σ) (this_0 := this_0) (i_0 := i_0) hσ hE (by (try dsimp only) <;> first | assumption | omega | ((try simp (disch := omega) only [w32_of, w64_of, w8_of]) <;> first | assumption | omega | (split <;> omega) | (refine And.intro ?_ ?_ <;> split <;> omega)) | omega)) ?_
      rintro x_24 - g29
      try simp (disch := omega) only [w32_of, w64_of, w8_of] at g29
      refine wp_bd (s_E_lowX (σ := σ) (this_0 := this_0) (i_0 := j_0) hσ hE (by (try dsimp only) <;> first | assumption | omega | ((try simp (disch := omega) only [w32_of, w64_of, w8_of]) <;> first | assumption | omega | (split <;> omega) | (refine And.intro ?_ ?_ <;> split <;> omega)) | omega)) ?_
      rintro x_26 - g30
      try simp (disch := omega) only [w32_of, w64_of, w8_of] at g30
      have c31 := q_mxi_bd x_24 x_26
      try simp (disch := omega) only [w32_of, w64_of, w8_of] at c31
      exact wp_some (by (try dsimp only) <;> first | assumption | omega | ((try simp (disch := omega) only [w32_of, w64_of, w8_of]) <;> first | assumption | omega | (split <;> omega) | (refine And.intro ?_ ?_ <;> split <;> omega)) | omega)
    rintro x_28 _ g32
    refine wp_bd (P := fun rr_ => ((-1000000000) ≤ rr_ ∧ rr_ ≤ 1000000000)) ?_ ?_
    · refine wp_ft ?_
      refine wp_bd (s_E_highX (σ := σ) (this_0 := this_0) (i_0 := i_0) hσ hE (by (try dsimp only) <;> first | assumption | omega | ((try simp (disch := omega) only [w32_of, w64_of, w8_of]) <;> first | assumption | omega | (split <;> omega) | (refine And.intro ?_ ?_ <;> split <;> omega)) | omega)) ?_
      rintro x_44 - g33
      try simp (disch := omega) only [w32_of, w64_of, w8_of] at g33
      refine wp_bd (s_E_highX (σ := σ) (this_0 := this_0) (i_0 := j_0) hσ hE (by (try dsimp only) <;> first | assumption | omega | ((try simp (disch := omega) only [w32_of, w64_of, w8_of]) <;> first | assumption | omega | (split <;> omega) | (refine And.intro ?_ ?_ <;> split <;> omega)) | omega)) ?_
      rintro x_46 - g34
      try simp (disch := omega) only [w32_of, w64_of, w8_of] at g34
      have c35 := q_mni_bd x_44 x_46
      try simp (disch := omega) only [w32_of, w64_of, w8_of] at c35
      exact wp_some (by (try dsimp only) <;> first | assumption | omega | ((try simp (disch := omega) only [w32_of, w64_of, w8_of]) <;> first | assumption | omega | (split <;> omega) | (refine And.intro ?_ ?_ <;> split <;> omega)) | omega)
    rintro x_48 _ g36
    have c38 := w32_rng x_48
    have c39 := w32_rng x_28
    refine wp_if (fun c37 => ?_) (fun c37 => ?_)
    · try simp (disch := omega) only [w32_of, w64_of, w8_of, decide_eq_true_eq, decide_eq_false_iff_not, Bool.not_eq_true] at c37
      exact wp_some ⟨hσ, (FC_refl _ _ _), (by (try dsimp only) <;> first | assumption | omega | ((try simp (disch := omega) only [w32_of, w64_of, w8_of]) <;> first | assumption | omega | (split <;> omega) | (refine And.intro ?_ ?_ <;> split <;> omega)) | omega)⟩
    · try simp (disch := omega) only [w32_of, w64_of, w8_of, decide_eq_true_eq, decide_eq_false_iff_not, Bool.not_eq_true] at c37
      refine wp_bd (P := fun rr_ => (2 ≤ rr_.1 ∧ rr_.1 ≤ 3) ∧ II rr_.2 ∧ FC [(kE_placeX this_0), (kE_placeY this_0)] [] σ rr_.2) ?_ ?_
      · refine wp_if (fun c40 => ?_) (fun c40 => ?_)
        · try simp (disch := omega) only [w32_of, w64_of, w8_of, decide_eq_true_eq, decide_eq_false_iff_not, Bool.not_eq_true] at c40
          exact wp_some ⟨(by (try dsimp only) <;> first | assumption | omega | ((try simp (disch := omega) only [w32_of, w64_of, w8_of]) <;> first | assumption | omega | (split <;> omega) | (refine And.intro ?_ ?_ <;> split <;> omega)) | omega), hσ, (FC_refl _ _ _)⟩
        · try simp (disch := omega) only [w32_of, w64_of, w8_of, decide_eq_true_eq, decide_eq_false_iff_not, Bool.not_eq_true] at c40
          refine wp_bdk ?_
          refine wp_bd (P := fun rr_ => ((-1000000000) ≤ rr_ ∧ rr_ ≤ 1000000000)) ?_ ?_
          · refine wp_ft ?_
            refine wp_rdI (by (try dsimp only) <;> first | assumption | omega | ((try simp (disch := omega) only [w32_of, w64_of, w8_of]) <;> first | assumption | omega | (split <;> omega) | (refine And.intro ?_ ?_ <;> split <;> omega)) | omega) (by (try dsimp only) <;> first | assumption | omega | ((try simp (disch := omega) only [w32_of, w64_of, w8_of]) <;> first | assumption | omega | (split <;> omega) | (refine And.intro ?_ ?_ <;> split <;> omega)) | omega) (fun x_87 e_x_87 => ?_)
            have b_x_87 : (-1000000000) ≤ x_87 ∧ x_87 ≤ 1000000000 := by rw [e_x_87]; exact iiE_ax (s := this_0) hσ hE _
            try simp (disch := omega) only [w32_of, w64_of, w8_of] at e_x_87
            exact wp_some (by (try dsimp only) <;> first | assumption | omega | ((try simp (disch := omega) only [w32_of, w64_of, w8_of]) <;> first | assumption | omega | (split <;> omega) | (refine And.intro ?_ ?_ <;> split <;> omega)) | omega)
          rintro x_90 _ g41
          have c43 := w32_rng x_90
          refine wp_if (fun c42 => ?_) (fun c42 => ?_)
          · try simp (disch := omega) only [w32_of, w64_of, w8_of, decide_eq_true_eq, decide_eq_false_iff_not, Bool.not_eq_true] at c42
            refine wp_somek ?_
            try dsimp only
            refine wp_bd (s_E_touchAtEnd (σ := σ) (this_0 := this_0) (i_0 := i_0) (atBegin_0 := true) hσ hE (by (try dsimp only) <;> first | assumption | omega | ((try simp (disch := omega) only [w32_of, w64_of, w8_of]) <;> first | assumption | omega | (split <;> omega) | (refine And.intro ?_ ?_ <;> split <;> omega)) | omega)) ?_
            rintro ⟨x_101, σ_100⟩ - y45
            try dsimp only at y45 ⊢
            obtain ⟨hσ_100, flσ_100, g44⟩ := y45
            have frσ_100 : FC [(kE_placeX this_0), (kE_placeY this_0)] [] σ σ_100 := FC_le flσ_100 (by first | decide | (rcases hE with rfl | rfl | rfl <;> decide)) (by simp)
            try simp (disch := omega) only [w32_of, w64_of, w8_of] at g44
            exact wp_some ⟨(by (try dsimp only) <;> first | assumption | omega | ((try simp (disch := omega) only [w32_of, w64_of, w8_of]) <;> first | assumption | omega | (split <;> omega) | (refine And.intro ?_ ?_ <;> split <;> omega)) | omega), hσ_100, frσ_100⟩
          · try simp (disch := omega) only [w32_of, w64_of, w8_of, decide_eq_true_eq, decide_eq_false_iff_not, Bool.not_eq_true] at c42
            refine wp_somek ?_
            try dsimp only
            refine wp_bd (s_E_touchAtEnd (σ := σ) (this_0 := this_0) (i_0 := i_0) (atBegin_0 := false) hσ hE (by (try dsimp only) <;> first | assumption | omega | ((try simp (disch := omega) only [w32_of, w64_of, w8_of]) <;> first | assumption | omega | (split <;> omega) | (refine And.intro ?_ ?_ <;> split <;> omega)) | omega)) ?_
            rintro ⟨x_101, σ_100⟩ - y47
            try dsimp only at y47 ⊢
            obtain ⟨hσ_100, flσ_100, g46⟩ := y47
            have frσ_100 : FC [(kE_placeX this_0), (kE_placeY this_0)] [] σ σ_100 := FC_le flσ_100 (by first | decide | (rcases hE with rfl | rfl | rfl <;> decide)) (by simp)
            try simp (disch := omega) only [w32_of, w64_of, w8_of] at g46
            exact wp_some ⟨(by (try dsimp only) <;> first | assumption | omega | ((try simp (disch := omega) only [w32_of, w64_of, w8_of]) <;> first | assumption | omega | (split <;> omega) | (refine And.intro ?_ ?_ <;> split <;> omega)) | omega), hσ_100, frσ_100⟩
      rintro ⟨x_107, σ_108⟩ _ y49
      try dsimp only at y49 ⊢
      obtain ⟨g48, hσ_108, frσ_108⟩ := y49
      exact wp_some ⟨hσ_108, frσ_108, (by (try dsimp only) <;> first | assumption | omega | ((try simp (disch := omega) only [w32_of, w64_of, w8_of]) <;> first | assumption | omega | (split <;> omega) | (refine And.intro ?_ ?_ <;> split <;> omega)) | omega)⟩
theorem s_E_meet {σ : SG} {this_0 : Nat} {i_0 : Int} {j_0 : Int} (hσ : II σ) (hE : isE this_0) (w0 : 0 ≤ w32 i_0 ∧ w32 i_0 < ((gsz this_0 : Nat) : Int)) (w1 : 0 ≤ w32 j_0 ∧ w32 j_0 < ((gsz this_0 : Nat) : Int)) : wp_ (fE_meet σ this_0 i_0 j_0) (fun zz_ => II zz_.2 ∧ FC [(kE_placeX this_0), (kE_placeY this_0)] [] σ zz_.2 ∧ (0 ≤ zz_.1 ∧ zz_.1 ≤ 3) ∧ ((zz_.1 = 1) → (PCE σ this_0 (w32 i_0) (w32 j_0)))) := by
  unfold fE_meet
  have hgz := gsz_b hE
  refine wp_bd (s_E_areApart (σ := σ) (this_0 := this_0) (i_0 := i_0) (j_0 := j_0) hσ hE (by (try dsimp only) <;> first | assumption | omega | ((try simp (disch := omega) only [w32_of, w64_of, w8_of]) <;> first | assumption | omega | (split <;> omega) | (refine And.intro ?_ ?_ <;> split <;> omega)) | omega) (by (try dsimp only) <;> first | assumption | omega | ((try simp (disch := omega) only [w32_of, w64_of, w8_of]) <;> first | assumption | omega | (split <;> omega) | (refine And.intro ?_ ?_ <;> split <;> omega)) | omega)) ?_
  rintro x_2 - -
  refine wp_if (fun c2 => ?_) (fun c2 => ?_)
  · try simp (disch := omega) only [w32_of, w64_of, w8_of, decide_eq_true_eq, decide_eq_false_iff_not, Bool.not_eq_true] at c2
    exact wp_some ⟨hσ, (FC_refl _ _ _), (by (try dsimp only) <;> first | assumption | omega | ((try simp (disch := omega) only [w32_of, w64_of, w8_of]) <;> first | assumption | omega | (split <;> omega) | (refine And.intro ?_ ?_ <;> split <;> omega)) | omega), (by (try dsimp only) <;> (first | (intro q9; exact absurd q9 (by omega)) | (intro _; exact PCE_mk (a := x_9) (b := x_15) (c := x_25) (d := x_31) (by rw [ht1, e_x_4, e_x_6]) (by rw [ht2, e_x_10, e_x_12]) (by rw [ht3, e_x_20, e_x_22]) (by rw [ht4, e_x_26, e_x_28]) ⟨by omega, by omega⟩)))⟩
  · try simp (disch := omega) only [w32_of, w64_of, w8_of, decide_eq_true_eq, decide_eq_false_iff_not, Bool.not_eq_true] at c2
    have c3 := w32_rng j_0
    refine wp_rdI (by (try dsimp only) <;> first | assumption | omega | ((try simp (disch := omega) only [w32_of, w64_of, w8_of]) <;> first | assumption | omega | (split <;> omega) | (refine And.intro ?_ ?_ <;> split <;> omega)) | omega) (by (try dsimp only) <;> first | assumption | omega | ((try simp (disch := omega) only [w32_of, w64_of, w8_of]) <;> first | assumption | omega | (split <;> omega) | (refine And.intro ?_ ?_ <;> split <;> omega)) | omega) (fun x_4 e_x_4 => ?_)
    have b_x_4 : (-1000000000) ≤ x_4 ∧ x_4 ≤ 1000000000 := by rw [e_x_4]; exact iiE_ax (s := this_0) hσ hE _
    try simp (disch := omega) only [w32_of, w64_of, w8_of] at e_x_4
    have c4 := iiE_ax (s := this_0) hσ hE j_0
    refine wp_rdI (by (try dsimp only) <;> first | assumption | omega | ((try simp (disch := omega) only [w32_of, w64_of, w8_of]) <;> first | assumption | omega | (split <;> omega) | (refine And.intro ?_ ?_ <;> split <;> omega)) | omega) (by (try dsimp only) <;> first | assumption | omega | ((try simp (disch := omega) only [w32_of, w64_of, w8_of]) <;> first | assumption | omega | (split <;> omega) | (refine And.intro ?_ ?_ <;> split <;> omega)) | omega) (fun x_6 e_x_6 => ?_)
    have b_x_6 : (-1000000000) ≤ x_6 ∧ x_6 ≤ 1000000000 := by rw [e_x_6]; exact iiE_ay (s := this_0) hσ hE _
    try simp (disch := omega) only [w32_of, w64_of, w8_of] at e_x_6
    have c5 := iiE_ay (s := this_0) hσ hE j_0
    refine wp_bd (s_E_turn (σ := σ) (this_0 := this_0) (i_0 := i_0) (x_0 := x_4) (y_0 := x_6) hσ hE (by (try dsimp only) <;> first | assumption | omega | ((try simp (disch := omega) only [w32_of, w64_of, w8_of]) <;> first | assumption | omega | (split <;> omega) | (refine And.intro ?_ ?_ <;> split <;> omega)) | omega) (by (try dsimp only) <;> first | assumption | omega | ((try simp (disch := omega) only [w32_of, w64_of, w8_of]) <;> first | assumption | omega | (split <;> omega) | (refine And.intro ?_ ?_ <;> split <;> omega)) | omega) (by (try dsimp only) <;> first | assumption | omega | ((try simp (disch := omega) only [w32_of, w64_of, w8_of]) <;> first | assumption | omega | (split <;> omega) | (refine And.intro ?_ ?_ <;> split <;> omega)) | omega)) ?_
    rintro x_9 - ⟨ht1, hb1⟩
    try simp (disch := omega) only [w32_of, w64_of, w8_of] at ht1
    try simp (disch := omega) only [w32_of, w64_of, w8_of] at hb1
    refine wp_rdI (by (try dsimp only) <;> first | assumption | omega | ((try simp (disch := omega) only [w32_of, w64_of, w8_of]) <;> first | assumption | omega | (split <;> omega) | (refine And.intro ?_ ?_ <;> split <;> omega)) | omega) (by (try dsimp only) <;> first | assumption | omega | ((try simp (disch := omega) only [w32_of, w64_of, w8_of]) <;> first | assumption | omega | (split <;> omega) | (refine And.intro ?_ ?_ <;> split <;> omega)) | omega) (fun x_10 e_x_10 => ?_)
    have b_x_10 : (-1000000000) ≤ x_10 ∧ x_10 ≤ 1000000000 := by rw [e_x_10]; exact iiE_bx (s := this_0) hσ hE _
    try simp (disch := omega) only [w32_of, w64_of, w8_of] at e_x_10
    have c6 := iiE_bx (s := this_0) hσ hE j_0
    refine wp_rdI (by (try dsimp only) <;> first | assumption | omega | ((try simp (disch := omega) only [w32_of, w64_of, w8_of]) <;> first | assumption | omega | (split <;> omega) | (refine And.intro ?_ ?_ <;> split <;> omega)) | omega) (by (try dsimp only) <;> first | assumption | omega | ((try simp (disch := omega) only [w32_of, w64_of, w8_of]) <;> first | assumption | omega | (split <;> omega) | (refine And.intro ?_ ?_ <;> split <;> omega)) | omega) (fun x_12 e_x_12 => ?_)
    have b_x_12 : (-1000000000) ≤ x_12 ∧ x_12 ≤ 1000000000 := by rw [e_x_12]; exact iiE_by (s := this_0) hσ hE _
    try simp (disch := omega) only [w32_of, w64_of, w8_of] at e_x_12
    have c7 := iiE_by (s := this_0) hσ hE j_0
    refine wp_bd (s_E_turn (σ := σ) (this_0 := this_0) (i_0 := i_0) (x_0 := x_10) (y_0 := x_12) hσ hE (by (try dsimp only) <;> first | assumption | omega | ((try simp (disch := omega) only [w32_of, w64_of, w8_of]) <;> first | assumption | omega | (split <;> omega) | (refine And.intro ?_ ?_ <;> split <;> omega)) | omega) (by (try dsimp only) <;> first | assumption | omega | ((try simp (disch := omega) only [w32_of, w64_of, w8_of]) <;> first | assumption | omega | (split <;> omega) | (refine And.intro ?_ ?_ <;> split <;> omega)) | omega) (by (try dsimp only) <;> first | assumption | omega | ((try simp (disch := omega) only [w32_of, w64_of, w8_of]) <;> first | assumption | omega | (split <;> omega) | (refine And.intro ?_ ?_ <;> split <;> omega)) | omega)) ?_
    rintro x_15 - ⟨ht2, hb2⟩
    try simp (disch := omega) only [w32_of, w64_of, w8_of] at ht2
    try simp (disch := omega) only [w32_of, w64_of, w8_of] at hb2
    have hp1 := (b11 hb1 hb2).1
    have c9 := w32_rng x_9
    have c10 := w32_rng x_15
    refine wp_if (fun c8 => ?_) (fun c8 => ?_)
    · try simp (disch := omega) only [w32_of, w64_of, w8_of, decide_eq_true_eq, decide_eq_false_iff_not, Bool.not_eq_true] at c8
      refine wp_bd (s_E_meetOnOneLine (σ := σ) (this_0 := this_0) (i_0 := i_0) (j_0 := j_0) hσ hE (by (try dsimp only) <;> first | assumption | omega | ((try simp (disch := omega) only [w32_of, w64_of, w8_of]) <;> first | assumption | omega | (split <;> omega) | (refine And.intro ?_ ?_ <;> split <;> omega)) | omega) (by (try dsimp only) <;> first | assumption | omega | ((try simp (disch := omega) only [w32_of, w64_of, w8_of]) <;> first | assumption | omega | (split <;> omega) | (refine And.intro ?_ ?_ <;> split <;> omega)) | omega)) ?_
      rintro ⟨x_18, σ_17⟩ - y12
      try dsimp only at y12 ⊢
      obtain ⟨hσ_17, flσ_17, g11⟩ := y12
      have frσ_17 : FC [(kE_placeX this_0), (kE_placeY this_0)] [] σ σ_17 := FC_le flσ_17 (by first | decide | (rcases hE with rfl | rfl | rfl <;> decide)) (by simp)
      try simp (disch := omega) only [w32_of, w64_of, w8_of] at g11
      exact wp_some ⟨hσ_17, frσ_17, (by (try dsimp only) <;> first | assumption | omega | ((try simp (disch := omega) only [w32_of, w64_of, w8_of]) <;> first | assumption | omega | (split <;> omega) | (refine And.intro ?_ ?_ <;> split <;> omega)) | omega), (by (try dsimp only) <;> (first | (intro q9; exact absurd q9 (by omega)) | (intro _; exact PCE_mk (a := x_9) (b := x_15) (c := x_25) (d := x_31) (by rw [ht1, e_x_4, e_x_6]) (by rw [ht2, e_x_10, e_x_12]) (by rw [ht3, e_x_20, e_x_22]) (by rw [ht4, e_x_26, e_x_28]) ⟨by omega, by omega⟩)))⟩
    · try simp (disch := omega) only [w32_of, w64_of, w8_of, decide_eq_true_eq, decide_eq_false_iff_not, Bool.not_eq_true] at c8
      have c14 := w32_rng (x_9 * x_15)
      refine wp_if (fun c13 => ?_) (fun c13 => ?_)
      · try simp (disch := omega) only [w32_of, w64_of, w8_of, decide_eq_true_eq, decide_eq_false_iff_not, Bool.not_eq_true] at c13
        exact wp_some ⟨hσ, (FC_refl _ _ _), (by (try dsimp only) <;> first | assumption | omega | ((try simp (disch := omega) only [w32_of, w64_of, w8_of]) <;> first | assumption | omega | (split <;> omega) | (refine And.intro ?_ ?_ <;> split <;> omega)) | omega), (by (try dsimp only) <;> (first | (intro q9; exact absurd q9 (by omega)) | (intro _; exact PCE_mk (a := x_9) (b := x_15) (c := x_25) (d := x_31) (by rw [ht1, e_x_4, e_x_6]) (by rw [ht2, e_x_10, e_x_12]) (by rw [ht3, e_x_20, e_x_22]) (by rw [ht4, e_x_26, e_x_28]) ⟨by omega, by omega⟩)))⟩
      · try simp (disch := omega) only [w32_of, w64_of, w8_of, decide_eq_true_eq, decide_eq_false_iff_not, Bool.not_eq_true] at c13
        have c15 := w32_rng i_0
        refine wp_rdI (by (try dsimp only) <;> first | assumption | omega | ((try simp (disch := omega) only [w32_of, w64_of, w8_of]) <;> first | assumption | omega | (split <;> omega) | (refine And.intro ?_ ?_ <;> split <;> omega)) | omega) (by (try dsimp only) <;> first | assumption | omega | ((try simp (disch := omega) only [w32_of, w64_of, w8_of]) <;> first | assumption | omega | (split <;> omega) | (refine And.intro ?_ ?_ <;> split <;> omega)) | omega) (fun x_20 e_x_20 => ?_)
        have b_x_20 : (-1000000000) ≤ x_20 ∧ x_20 ≤ 1000000000 := by rw [e_x_20]; exact iiE_ax (s := this_0) hσ hE _
        try simp (disch := omega) only [w32_of, w64_of, w8_of] at e_x_20
        have c16 := iiE_ax (s := this_0) hσ hE i_0
        refine wp_rdI (by (try dsimp only) <;> first | assumption | omega | ((try simp (disch := omega) only [w32_of, w64_of, w8_of]) <;> first | assumption | omega | (split <;> omega) | (refine And.intro ?_ ?_ <;> split <;> omega)) | omega) (by (try dsimp only) <;> first | assumption | omega | ((try simp (disch := omega) only [w32_of, w64_of, w8_of]) <;> first | assumption | omega | (split <;> omega) | (refine And.intro ?_ ?_ <;> split <;> omega)) | omega) (fun x_22 e_x_22 => ?_)
        have b_x_22 : (-1000000000) ≤ x_22 ∧ x_22 ≤ 1000000000 := by rw [e_x_22]; exact iiE_ay (s := this_0) hσ hE _
        try simp (disch := omega) only [w32_of, w64_of, w8_of] at e_x_22
        have c17 := iiE_ay (s := this_0) hσ hE i_0
        refine wp_bd (s_E_turn (σ := σ) (this_0 := this_0) (i_0 := j_0) (x_0 := x_20) (y_0 := x_22) hσ hE (by (try dsimp only) <;> first | assumption | omega | ((try simp (disch := omega) only [w32_of, w64_of, w8_of]) <;> first | assumption | omega | (split <;> omega) | (refine And.intro ?_ ?_ <;> split <;> omega)) | omega) (by (try dsimp only) <;> first | assumption | omega | ((try simp (disch := omega) only [w32_of, w64_of, w8_of]) <;> first | assumption | omega | (split <;> omega) | (refine And.intro ?_ ?_ <;> split <;> omega)) | omega) (by (try dsimp only) <;> first | assumption | omega | ((try simp (disch := omega) only [w32_of, w64_of, w8_of]) <;> first | assumption | omega | (split <;> omega) | (refine And.intro ?_ ?_ <;> split <;> omega)) | omega)) ?_
        rintro x_25 - ⟨ht3, hb3⟩
        try simp (disch := omega) only [w32_of, w64_of, w8_of] at ht3
        try simp (disch := omega) only [w32_of, w64_of, w8_of] at hb3
        refine wp_rdI (by (try dsimp only) <;> first | assumption | omega | ((try simp (disch := omega) only [w32_of, w64_of, w8_of]) <;> first | assumption | omega | (split <;> omega) | (refine And.intro ?_ ?_ <;> split <;> omega)) | omega) (by (try dsimp only) <;> first | assumption | omega | ((try simp (disch := omega) only [w32_of, w64_of, w8_of]) <;> first | assumption | omega | (split <;> omega) | (refine And.intro ?_ ?_ <;> split <;> omega)) | omega) (fun x_26 e_x_26 => ?_)
        have b_x_26 : (-1000000000) ≤ x_26 ∧ x_26 ≤ 1000000000 := by rw [e_x_26]; exact iiE_bx (s := this_0) hσ hE _
        try simp (disch := omega) only [w32_of, w64_of, w8_of] at e_x_26
        have c18 := iiE_bx (s := this_0) hσ hE i_0
        refine wp_rdI (by (try dsimp only) <;> first | assumption | omega | ((try simp (disch := omega) only [w32_of, w64_of, w8_of]) <;> first | assumption | omega | (split <;> omega) | (refine And.intro ?_ ?_ <;> split <;> omega)) | omega) (by (try dsimp only) <;> first | assumption | omega | ((try simp (disch := omega) only [w32_of, w64_of, w8_of]) <;> first | assumption | omega | (split <;> omega) | (refine And.intro ?_ ?_ <;> split <;> omega)) | omega) (fun x_28 e_x_28 => ?_)
        have b_x_28 : (-1000000000) ≤ x_28 ∧ x_28 ≤ 1000000000 := by rw [e_x_28]; exact iiE_by (s := this_0) hσ hE _
        try simp (disch := omega) only [w32_of, w64_of, w8_of] at e_x_28
        have c19 := iiE_by (s := this_0) hσ hE i_0
        refine wp_bd (s_E_turn (σ := σ) (this_0 := this_0) (i_0 := j_0) (x_0 := x_26) (y_0 := x_28) hσ hE (by (try dsimp only) <;> first | assumption | omega | ((try simp (disch := omega) only [w32_of, w64_of, w8_of]) <;> first | assumption | omega | (split <;> omega) | (refine And.intro ?_ ?_ <;> split <;> omega)) | omega) (by (try dsimp only) <;> first | assumption | omega | ((try simp (disch := omega) only [w32_of, w64_of, w8_of]) <;> first | assumption | omega | (split <;> omega) | (refine And.intro ?_ ?_ <;> split <;> omega)) | omega) (by (try dsimp only) <;> first | assumption | omega | ((try simp (disch := omega) only [w32_of, w64_of, w8_of]) <;> first | assumption | omega | (split <;> omega) | (refine And.intro ?_ ?_ <;> split <;> omega)) | omega)) ?_
        rintro x_31 - ⟨ht4, hb4⟩
        try simp (disch := omega) only [w32_of, w64_of, w8_of] at ht4
        try simp (disch := omega) only [w32_of, w64_of, w8_of] at hb4
        have hp2 := (b11 hb3 hb4).1
        have c21 := w32_rng (x_25 * x_31)
        refine wp_if (fun c20 => ?_) (fun c20 => ?_)
        · try simp (disch := omega) only [w32_of, w64_of, w8_of, decide_eq_true_eq, decide_eq_false_iff_not, Bool.not_eq_true] at c20
          exact wp_some ⟨hσ, (FC_refl _ _ _), (by (try dsimp only) <;> first | assumption | omega | ((try simp (disch := omega) only [w32_of, w64_of, w8_of]) <;> first | assumption | omega | (split <;> omega) | (refine And.intro ?_ ?_ <;> split <;> omega)) | omega), (by (try dsimp only) <;> (first | (intro q9; exact absurd q9 (by omega)) | (intro _; exact PCE_mk (a := x_9) (b := x_15) (c := x_25) (d := x_31) (by rw [ht1, e_x_4, e_x_6]) (by rw [ht2, e_x_10, e_x_12]) (by rw [ht3, e_x_20, e_x_22]) (by rw [ht4, e_x_26, e_x_28]) ⟨by omega, by omega⟩)))⟩
        · try simp (disch := omega) only [w32_of, w64_of, w8_of, decide_eq_true_eq, decide_eq_false_iff_not, Bool.not_eq_true] at c20
          refine wp_if (fun c22 => ?_) (fun c22 => ?_)
          · try simp (disch := omega) only [w32_of, w64_of, w8_of, decide_eq_true_eq, decide_eq_false_iff_not, Bool.not_eq_true] at c22
            exact wp_some ⟨hσ, (FC_refl _ _ _), (by (try dsimp only) <;> first | assumption | omega | ((try simp (disch := omega) only [w32_of, w64_of, w8_of]) <;> first | assumption | omega | (split <;> omega) | (refine And.intro ?_ ?_ <;> split <;> omega)) | omega), (by (try dsimp only) <;> (first | (intro q9; exact absurd q9 (by omega)) | (intro _; exact PCE_mk (a := x_9) (b := x_15) (c := x_25) (d := x_31) (by rw [ht1, e_x_4, e_x_6]) (by rw [ht2, e_x_10, e_x_12]) (by rw [ht3, e_x_20, e_x_22]) (by rw [ht4, e_x_26, e_x_28]) ⟨by omega, by omega⟩)))⟩
          · try simp (disch := omega) only [w32_of, w64_of, w8_of, decide_eq_true_eq, decide_eq_false_iff_not, Bool.not_eq_true] at c22
            refine wp_if (fun c23 => ?_) (fun c23 => ?_)
            · try simp (disch := omega) only [w32_of, w64_of, w8_of, decide_eq_true_eq, decide_eq_false_iff_not, Bool.not_eq_true] at c23
              refine wp_bd (s_E_touchAtEnd (σ := σ) (this_0 := this_0) (i_0 := j_0) (atBegin_0 := (decide ((w32 x_9) = 0))) hσ hE (by (try dsimp only) <;> first | assumption | omega | ((try simp (disch := omega) only [w32_of, w64_of, w8_of]) <;> first | assumption | omega | (split <;> omega) | (refine And.intro ?_ ?_ <;> split <;> omega)) | omega)) ?_
              rintro ⟨x_36, σ_35⟩ - y25
              try dsimp only at y25 ⊢
              obtain ⟨hσ_35, flσ_35, g24⟩ := y25
              have frσ_35 : FC [(kE_placeX this_0), (kE_placeY this_0)] [] σ σ_35 := FC_le flσ_35 (by first | decide | (rcases hE with rfl | rfl | rfl <;> decide)) (by simp)
              try simp (disch := omega) only [w32_of, w64_of, w8_of] at g24
              exact wp_some ⟨hσ_35, frσ_35, (by (try dsimp only) <;> first | assumption | omega | ((try simp (disch := omega) only [w32_of, w64_of, w8_of]) <;> first | assumption | omega | (split <;> omega) | (refine And.intro ?_ ?_ <;> split <;> omega)) | omega), (by (try dsimp only) <;> (first | (intro q9; exact absurd q9 (by omega)) | (intro _; exact PCE_mk (a := x_9) (b := x_15) (c := x_25) (d := x_31) (by rw [ht1, e_x_4, e_x_6]) (by rw [ht2, e_x_10, e_x_12]) (by rw [ht3, e_x_20, e_x_22]) (by rw [ht4, e_x_26, e_x_28]) ⟨by omega, by omega⟩)))⟩
            · try simp (disch := omega) only [w32_of, w64_of, w8_of, decide_eq_true_eq, decide_eq_false_iff_not, Bool.not_eq_true] at c23
              have c26 := w32_rng x_25
              refine wp_bd (s_E_touchAtEnd (σ := σ) (this_0 := this_0) (i_0 := i_0) (atBegin_0 := (decide ((w32 x_25) = 0))) hσ hE (by (try dsimp only) <;> first | assumption | omega | ((try simp (disch := omega) only [w32_of, w64_of, w8_of]) <;> first | assumption | omega | (split <;> omega) | (refine And.intro ?_ ?_ <;> split <;> omega)) | omega)) ?_
              rintro ⟨x_41, σ_40⟩ - y28
              try dsimp only at y28 ⊢
              obtain ⟨hσ_40, flσ_40, g27⟩ := y28
              have frσ_40 : FC [(kE_placeX this_0), (kE_placeY this_0)] [] σ σ_40 := FC_le flσ_40 (by first | decide | (rcases hE with rfl | rfl | rfl <;> decide)) (by simp)
              try simp (disch := omega) only [w32_of, w64_of, w8_of] at g27
              exact wp_some ⟨hσ_40, frσ_40, (by (try dsimp only) <;> first | assumption | omega | ((try simp (disch := omega) only [w32_of, w64_of, w8_of]) <;> first | assumption | omega | (split <;> omega) | (refine And.intro ?_ ?_ <;> split <;> omega)) | omega), (by (try dsimp only) <;> (first | (intro q9; exact absurd q9 (by omega)) | (intro _; exact PCE_mk (a := x_9) (b := x_15) (c := x_25) (d := x_31) (by rw [ht1, e_x_4, e_x_6]) (by rw [ht2, e_x_10, e_x_12]) (by rw [ht3, e_x_20, e_x_22]) (by rw [ht4, e_x_26, e_x_28]) ⟨by omega, by omega⟩)))⟩
