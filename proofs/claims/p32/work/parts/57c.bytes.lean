theorem v_whole {σ : SG} {from_0 : Int} {n_0 : Int} (hσ : II σ) (qfrom_0 : 0 ≤ from_0 ∧ from_0 ≤ 65532) (qn_0 : 4 ≤ n_0 ∧ n_0 ≤ 8) (w0 : 0 ≤ from_0 ∧ from_0 + n_0 ≤ 65536) (w1 : n_0 = 4 ∨ n_0 = 8) : wp_ (fR_whole σ from_0 n_0) (fun zz_ => (n_0 = 8 ∨ (0 ≤ zz_ ∧ zz_ < 4294967296))) := by
  unfold fR_whole
  refine wp_bd (P := fun rr_ => (n_0 = 8 ∨ (0 ≤ rr_.1 ∧ rr_.1 < 4294967296))) ?_ ?_
  · refine wp_whl (fun ss_ => (0 ≤ ss_.2 ∧ ss_.2 ≤ n_0) ∧ (ss_.2 ≤ 4 → (0 ≤ ss_.1 ∧ ss_.1 < 4294967296) ∧ (ss_.2 ≤ 3 → ss_.1 < 16777216) ∧ (ss_.2 ≤ 2 → ss_.1 < 65536) ∧ (ss_.2 ≤ 1 → ss_.1 < 256) ∧ (ss_.2 = 0 → ss_.1 = 0))) (fun ss_ => (16 - ss_.2).toNat) ⟨(by (try dsimp only) <;> first | assumption | omega | ((try simp (disch := omega) only [w32_of, w64_of, w8_of]) <;> first | assumption | omega | (split <;> omega) | (refine And.intro ?_ ?_ <;> split <;> omega)) | omega), (by (try dsimp only) <;> (first | (intro _; exact ⟨by omega, fun _ => by omega, fun _ => by omega, fun _ => by omega, fun _ => rfl⟩) | (intro q; obtain ⟨a1, a2, a3, a4, a5⟩ := gv (by omega); rw [lor_b (by omega) (by omega) hb.1 hb.2]; refine ⟨by omega, fun _ => by omega, fun _ => by omega, fun _ => by omega, fun _ => by omega⟩)))⟩ ?_
    rintro ⟨v_1, k_2⟩ y2
    try dsimp only at y2 ⊢
    obtain ⟨g1, gv⟩ := y2
    have c4 := w32_rng k_2
    have c5 := w32_rng n_0
    refine wp_if (fun c3 => ?_) (fun c3 => ?_)
    · try simp (disch := omega) only [w32_of, w64_of, w8_of, decide_eq_true_eq, decide_eq_false_iff_not, Bool.not_eq_true] at c3
      have c6 := ii_kR_bigFirst hσ 0
      refine wp_lt (fun x_12 e_x_12 => ?_)
      try simp (disch := omega) only [w32_of, w64_of, w8_of] at e_x_12
      have hx12 : 0 ≤ x_12 ∧ x_12 ≤ 65535 := by rw [e_x_12]; split <;> omega
      have c7 := w32_rng x_12
      refine wp_rdI (by (try dsimp only) <;> first | assumption | omega | ((try simp (disch := omega) only [w32_of, w64_of, w8_of]) <;> first | assumption | omega | (split <;> omega) | (refine And.intro ?_ ?_ <;> split <;> omega)) | omega) (by (try dsimp only) <;> first | assumption | omega | ((try simp (disch := omega) only [w32_of, w64_of, w8_of]) <;> first | assumption | omega | (split <;> omega) | (refine And.intro ?_ ?_ <;> split <;> omega)) | omega) (fun x_13 e_x_13 => ?_)
      have b_x_13 : (-128) ≤ x_13 ∧ x_13 ≤ 127 := by rw [e_x_13]; exact ii_kR_tape hσ _
      try simp (disch := omega) only [w32_of, w64_of, w8_of] at e_x_13
      have c8 := ii_kR_tape hσ x_12
      have hb := lan255 (w32 (w8 x_13)) (by rw [w8_of (by omega) (by omega), w32_of (by omega) (by omega)]; omega)
      exact wp_some (x_inl ⟨⟨(by (try dsimp only) <;> first | assumption | omega | ((try simp (disch := omega) only [w32_of, w64_of, w8_of]) <;> first | assumption | omega | (split <;> omega) | (refine And.intro ?_ ?_ <;> split <;> omega)) | omega), (by (try dsimp only) <;> (first | (intro _; exact ⟨by omega, fun _ => by omega, fun _ => by omega, fun _ => by omega, fun _ => rfl⟩) | (intro q; obtain ⟨a1, a2, a3, a4, a5⟩ := gv (by omega); rw [lor_b (by omega) (by omega) hb.1 hb.2]; refine ⟨by omega, fun _ => by omega, fun _ => by omega, fun _ => by omega, fun _ => by omega⟩)))⟩, (by (try dsimp only) <;> first | assumption | omega | ((try simp (disch := omega) only [w32_of, w64_of, w8_of]) <;> first | assumption | omega | (split <;> omega) | (refine And.intro ?_ ?_ <;> split <;> omega)) | omega)⟩)
    · try simp (disch := omega) only [w32_of, w64_of, w8_of, decide_eq_true_eq, decide_eq_false_iff_not, Bool.not_eq_true] at c3
      exact wp_some (x_inr (by (try dsimp only) <;> (rcases w1 with q | q; (have q1 := (gv (by omega)).1; exact Or.inr (by omega)); exact Or.inl q)))
  rintro ⟨v_18, k_19⟩ _ y10
  try dsimp only at y10 ⊢
  have g9 := y10
  exact wp_some (by (try dsimp only) <;> first | assumption | omega | ((try simp (disch := omega) only [w32_of, w64_of, w8_of]) <;> first | assumption | omega | (split <;> omega) | (refine And.intro ?_ ?_ <;> split <;> omega)) | omega)
theorem v_ordinateOfBytes {σ : SG} (hσ : II σ) (w0 : σ kR_at 0 ≤ σ kR_size 0) : wp_ (fR_ordinateOfBytes σ) (fun zz_ => II zz_.2 ∧ FR [kR_at, kR_faultKind, kR_faultPlace, kR_value] σ zz_.2 ∧ (σ kR_at 0 ≤ zz_.2 kR_at 0) ∧ (zz_.2 kR_at 0 ≤ σ kR_size 0) ∧ ((zz_.1 = true) → ((-1000000000) ≤ zz_.2 kR_value 0 ∧ zz_.2 kR_value 0 ≤ 1000000000))) := by
  unfold fR_ordinateOfBytes
  have c1 := ii_kR_at hσ 0
  have c2 := ii_kR_size hσ 0
  refine wp_if (fun c3 => ?_) (fun c3 => ?_)
  · try simp (disch := omega) only [w32_of, w64_of, w8_of, decide_eq_true_eq, decide_eq_false_iff_not, Bool.not_eq_true, fR_there] at c3
    refine wp_bd (v_whole (σ := σ) (from_0 := (σ kR_at 0)) (n_0 := 8) hσ (by (try dsimp only) <;> first | assumption | omega | ((try simp (disch := omega) only [w32_of, w64_of, w8_of]) <;> first | assumption | omega | (split <;> omega) | (refine And.intro ?_ ?_ <;> split <;> omega)) | omega) (by (try dsimp only) <;> first | assumption | omega | ((try simp (disch := omega) only [w32_of, w64_of, w8_of]) <;> first | assumption | omega | (split <;> omega) | (refine And.intro ?_ ?_ <;> split <;> omega)) | omega) (by (try dsimp only) <;> first | assumption | omega | ((try simp (disch := omega) only [w32_of, w64_of, w8_of]) <;> first | assumption | omega | (split <;> omega) | (refine And.intro ?_ ?_ <;> split <;> omega)) | omega) (by (try dsimp only) <;> first | assumption | omega | ((try simp (disch := omega) only [w32_of, w64_of, w8_of]) <;> first | assumption | omega | (split <;> omega) | (refine And.intro ?_ ?_ <;> split <;> omega)) | omega)) ?_
    rintro x_3 - g4
    try simp (disch := omega) only [w32_of, w64_of, w8_of] at g4
    have c6 := q_lus_rng x_3 52
    have c7 := q_lan_bd (q_lus x_3 52) (m := 2047) (by decide) (by decide)
    try simp (disch := omega) only [w32_of, w64_of, w8_of] at c7
    have c8 := w64_rng (q_lan (q_lus x_3 52) 2047)
    refine wp_if (fun c5 => ?_) (fun c5 => ?_)
    · try simp (disch := omega) only [w32_of, w64_of, w8_of, decide_eq_true_eq, decide_eq_false_iff_not, Bool.not_eq_true] at c5
      refine wp_bd (v_wrong (σ := σ) (kind_0 := 4) (where_0 := (σ kR_at 0)) hσ (by (try dsimp only) <;> first | assumption | omega | ((try simp (disch := omega) only [w32_of, w64_of, w8_of]) <;> first | assumption | omega | (split <;> omega) | (refine And.intro ?_ ?_ <;> split <;> omega)) | omega) (by (try dsimp only) <;> first | assumption | omega | ((try simp (disch := omega) only [w32_of, w64_of, w8_of]) <;> first | assumption | omega | (split <;> omega) | (refine And.intro ?_ ?_ <;> split <;> omega)) | omega)) ?_
      rintro ⟨x_7, σ_6⟩ - y10
      try dsimp only at y10 ⊢
      obtain ⟨hσ_6, flσ_6, g9⟩ := y10
      have frσ_6 : FR [kR_at, kR_faultKind, kR_faultPlace, kR_value] σ σ_6 := FR_le flσ_6 (by decide)
      try simp (disch := omega) only [w32_of, w64_of, w8_of] at g9
      have c11 := ii_kR_at hσ_6 0
      have c12 := FR_at flσ_6 (c := kR_at) (by decide) 0
      have c13 := ii_kR_value hσ_6 0
      have c14 := FR_at flσ_6 (c := kR_value) (by decide) 0
      have c15 := ii_kR_value hσ 0
      exact wp_some ⟨hσ_6, frσ_6, (by (try dsimp only) <;> first | assumption | omega | ((try simp (disch := omega) only [w32_of, w64_of, w8_of]) <;> first | assumption | omega | (split <;> omega) | (refine And.intro ?_ ?_ <;> split <;> omega)) | omega), (by (try dsimp only) <;> first | assumption | omega | ((try simp (disch := omega) only [w32_of, w64_of, w8_of]) <;> first | assumption | omega | (split <;> omega) | (refine And.intro ?_ ?_ <;> split <;> omega)) | omega), (fun q => absurd (q.symm.trans g9) (by decide))⟩
    · try simp (disch := omega) only [w32_of, w64_of, w8_of, decide_eq_true_eq, decide_eq_false_iff_not, Bool.not_eq_true] at c5
      have hiu := iu_b (σ := σ) (b := x_3)
      have hiw := w64_of (x := fR_inUnits σ x_3) (by omega) (by omega)
      have c17 := w64_rng (fR_inUnits σ x_3)
      refine wp_if (fun c16 => ?_) (fun c16 => ?_)
      · try simp (disch := omega) only [w32_of, w64_of, w8_of, decide_eq_true_eq, decide_eq_false_iff_not, Bool.not_eq_true] at c16
        refine wp_bd (v_wrong (σ := σ) (kind_0 := 5) (where_0 := (σ kR_at 0)) hσ (by (try dsimp only) <;> first | assumption | omega | ((try simp (disch := omega) only [w32_of, w64_of, w8_of]) <;> first | assumption | omega | (split <;> omega) | (refine And.intro ?_ ?_ <;> split <;> omega)) | omega) (by (try dsimp only) <;> first | assumption | omega | ((try simp (disch := omega) only [w32_of, w64_of, w8_of]) <;> first | assumption | omega | (split <;> omega) | (refine And.intro ?_ ?_ <;> split <;> omega)) | omega)) ?_
        rintro ⟨x_11, σ_10⟩ - y19
        try dsimp only at y19 ⊢
        obtain ⟨hσ_10, flσ_10, g18⟩ := y19
        have frσ_10 : FR [kR_at, kR_faultKind, kR_faultPlace, kR_value] σ σ_10 := FR_le flσ_10 (by decide)
        try simp (disch := omega) only [w32_of, w64_of, w8_of] at g18
        have c20 := ii_kR_at hσ_10 0
        have c21 := FR_at flσ_10 (c := kR_at) (by decide) 0
        have c22 := ii_kR_value hσ_10 0
        have c23 := FR_at flσ_10 (c := kR_value) (by decide) 0
        have c24 := ii_kR_value hσ 0
        exact wp_some ⟨hσ_10, frσ_10, (by (try dsimp only) <;> first | assumption | omega | ((try simp (disch := omega) only [w32_of, w64_of, w8_of]) <;> first | assumption | omega | (split <;> omega) | (refine And.intro ?_ ?_ <;> split <;> omega)) | omega), (by (try dsimp only) <;> first | assumption | omega | ((try simp (disch := omega) only [w32_of, w64_of, w8_of]) <;> first | assumption | omega | (split <;> omega) | (refine And.intro ?_ ?_ <;> split <;> omega)) | omega), (fun q => absurd (q.symm.trans g18) (by decide))⟩
      · try simp (disch := omega) only [w32_of, w64_of, w8_of, decide_eq_true_eq, decide_eq_false_iff_not, Bool.not_eq_true] at c16
        have c25 := w64_rng x_3
        refine wp_wfI hσ b_kR_value (by (try dsimp only) <;> first | assumption | omega | ((try simp (disch := omega) only [w32_of, w64_of, w8_of]) <;> first | assumption | omega | (split <;> omega) | (refine And.intro ?_ ?_ <;> split <;> omega)) | omega) (fun σ_13 hσ_13 eσ_13 => ?_)
        try simp (disch := omega) only [w32_of, w64_of, w8_of] at eσ_13
        have flσ_13 := FR_sg eσ_13
        have frσ_13 : FR [kR_at, kR_faultKind, kR_faultPlace, kR_value] σ σ_13 := FR_le flσ_13 (by decide)
        have c26 := ii_kR_at hσ_13 0
        have c27 := FR_at flσ_13 (c := kR_at) (by decide) 0
        refine wp_wfI hσ_13 b_kR_at (by (try dsimp only) <;> first | assumption | omega | ((try simp (disch := omega) only [w32_of, w64_of, w8_of]) <;> first | assumption | omega | (split <;> omega) | (refine And.intro ?_ ?_ <;> split <;> omega)) | omega) (fun σ_14 hσ_14 eσ_14 => ?_)
        try simp (disch := omega) only [w32_of, w64_of, w8_of] at eσ_14
        have flσ_14 := FR_sg eσ_14
        have frσ_14 : FR [kR_at, kR_faultKind, kR_faultPlace, kR_value] σ σ_14 := FR_tr frσ_13 flσ_14 (by decide) (by decide)
        have c28 := ii_kR_at hσ_14 0
        have c29 := sg_val eσ_14
        have c30 := ii_kR_value hσ_14 0
        have c31 := FR_at flσ_14 (c := kR_value) (by decide) 0
        have c32 := ii_kR_value hσ_13 0
        have c33 := sg_val eσ_13
        exact wp_some ⟨hσ_14, frσ_14, (by (try dsimp only) <;> first | assumption | omega | ((try simp (disch := omega) only [w32_of, w64_of, w8_of]) <;> first | assumption | omega | (split <;> omega) | (refine And.intro ?_ ?_ <;> split <;> omega)) | omega), (by (try dsimp only) <;> first | assumption | omega | ((try simp (disch := omega) only [w32_of, w64_of, w8_of]) <;> first | assumption | omega | (split <;> omega) | (refine And.intro ?_ ?_ <;> split <;> omega)) | omega), (by intro q9; (try dsimp only) <;> first | assumption | omega | ((try simp (disch := omega) only [w32_of, w64_of, w8_of]) <;> first | assumption | omega | (split <;> omega) | (refine And.intro ?_ ?_ <;> split <;> omega)) | omega)⟩
  · try simp (disch := omega) only [w32_of, w64_of, w8_of, decide_eq_true_eq, decide_eq_false_iff_not, Bool.not_eq_true, fR_there] at c3
    refine wp_bd (v_wrong (σ := σ) (kind_0 := 3) (where_0 := (σ kR_at 0)) hσ (by (try dsimp only) <;> first | assumption | omega | ((try simp (disch := omega) only [w32_of, w64_of, w8_of]) <;> first | assumption | omega | (split <;> omega) | (refine And.intro ?_ ?_ <;> split <;> omega)) | omega) (by (try dsimp only) <;> first | assumption | omega | ((try simp (disch := omega) only [w32_of, w64_of, w8_of]) <;> first | assumption | omega | (split <;> omega) | (refine And.intro ?_ ?_ <;> split <;> omega)) | omega)) ?_
    rintro ⟨x_18, σ_17⟩ - y35
    try dsimp only at y35 ⊢
    obtain ⟨hσ_17, flσ_17, g34⟩ := y35
    have frσ_17 : FR [kR_at, kR_faultKind, kR_faultPlace, kR_value] σ σ_17 := FR_le flσ_17 (by decide)
    try simp (disch := omega) only [w32_of, w64_of, w8_of] at g34
    have c36 := ii_kR_at hσ_17 0
    have c37 := FR_at flσ_17 (c := kR_at) (by decide) 0
    have c38 := ii_kR_value hσ_17 0
    have c39 := FR_at flσ_17 (c := kR_value) (by decide) 0
    have c40 := ii_kR_value hσ 0
    exact wp_some ⟨hσ_17, frσ_17, (by (try dsimp only) <;> first | assumption | omega | ((try simp (disch := omega) only [w32_of, w64_of, w8_of]) <;> first | assumption | omega | (split <;> omega) | (refine And.intro ?_ ?_ <;> split <;> omega)) | omega), (by (try dsimp only) <;> first | assumption | omega | ((try simp (disch := omega) only [w32_of, w64_of, w8_of]) <;> first | assumption | omega | (split <;> omega) | (refine And.intro ?_ ?_ <;> split <;> omega)) | omega), (fun q => absurd (q.symm.trans g34) (by decide))⟩
theorem v_coordinateOfBytes {σ : SG} (hσ : II σ) (w0 : σ kR_at 0 ≤ σ kR_size 0) : wp_ (fR_coordinateOfBytes σ) (fun zz_ => II zz_.2 ∧ FR [kR_at, kR_faultKind, kR_faultPlace, kR_pointMany, kR_value, kR_xs, kR_ys] σ zz_.2 ∧ NF σ zz_.2 ∧ (σ kR_at 0 ≤ zz_.2 kR_at 0) ∧ (zz_.2 kR_at 0 ≤ σ kR_size 0) ∧ ((zz_.1 = true) → zz_.2 kR_pointMany 32 = σ kR_pointMany 32 + 1)) := by
  unfold fR_coordinateOfBytes
  have c1 := ii_kR_at hσ 0
  have c2 := ii_kR_size hσ 0
  refine wp_rdI (by (try dsimp only) <;> first | assumption | omega | ((try simp (disch := omega) only [w32_of, w64_of, w8_of]) <;> first | assumption | omega | (split <;> omega) | (refine And.intro ?_ ?_ <;> split <;> omega)) | omega) (by (try dsimp only) <;> first | assumption | omega | ((try simp (disch := omega) only [w32_of, w64_of, w8_of]) <;> first | assumption | omega | (split <;> omega) | (refine And.intro ?_ ?_ <;> split <;> omega)) | omega) (fun x_1 e_x_1 => ?_)
  have b_x_1 : 0 ≤ x_1 ∧ x_1 ≤ 2048 := by rw [e_x_1]; exact ii_kR_pointMany hσ _
  try simp (disch := omega) only [w32_of, w64_of, w8_of] at e_x_1
  have c3 := ii_kR_pointMany hσ 32
  have c5 := w32_rng x_1
  refine wp_if (fun c4 => ?_) (fun c4 => ?_)
  · try simp (disch := omega) only [w32_of, w64_of, w8_of, decide_eq_true_eq, decide_eq_false_iff_not, Bool.not_eq_true] at c4
    refine wp_bd (v_wrong (σ := σ) (kind_0 := 7) (where_0 := (σ kR_at 0)) hσ (by (try dsimp only) <;> first | assumption | omega | ((try simp (disch := omega) only [w32_of, w64_of, w8_of]) <;> first | assumption | omega | (split <;> omega) | (refine And.intro ?_ ?_ <;> split <;> omega)) | omega) (by (try dsimp only) <;> first | assumption | omega | ((try simp (disch := omega) only [w32_of, w64_of, w8_of]) <;> first | assumption | omega | (split <;> omega) | (refine And.intro ?_ ?_ <;> split <;> omega)) | omega)) ?_
    rintro ⟨x_6, σ_5⟩ - y7
    try dsimp only at y7 ⊢
    obtain ⟨hσ_5, flσ_5, g6⟩ := y7
    have frσ_5 : FR [kR_at, kR_faultKind, kR_faultPlace, kR_pointMany, kR_value, kR_xs, kR_ys] σ σ_5 := FR_le flσ_5 (by decide)
    have nfσ_5 : NF σ σ_5 := NF_fr (NF_refl _) flσ_5 (by decide)
    try simp (disch := omega) only [w32_of, w64_of, w8_of] at g6
    have c8 := ii_kR_at hσ_5 0
    have c9 := FR_at flσ_5 (c := kR_at) (by decide) 0
    have c10 := ii_kR_pointMany hσ_5 32
    have c11 := FR_at flσ_5 (c := kR_pointMany) (by decide) 32
    exact wp_some ⟨hσ_5, frσ_5, nfσ_5, (by (try dsimp only) <;> first | assumption | omega | ((try simp (disch := omega) only [w32_of, w64_of, w8_of]) <;> first | assumption | omega | (split <;> omega) | (refine And.intro ?_ ?_ <;> split <;> omega)) | omega), (by (try dsimp only) <;> first | assumption | omega | ((try simp (disch := omega) only [w32_of, w64_of, w8_of]) <;> first | assumption | omega | (split <;> omega) | (refine And.intro ?_ ?_ <;> split <;> omega)) | omega), (fun q => absurd (q.symm.trans g6) (by decide))⟩
  · try simp (disch := omega) only [w32_of, w64_of, w8_of, decide_eq_true_eq, decide_eq_false_iff_not, Bool.not_eq_true] at c4
    refine wp_bd (v_ordinateOfBytes (σ := σ) hσ (by (try dsimp only) <;> first | assumption | omega | ((try simp (disch := omega) only [w32_of, w64_of, w8_of]) <;> first | assumption | omega | (split <;> omega) | (refine And.intro ?_ ?_ <;> split <;> omega)) | omega)) ?_
    rintro ⟨x_9, σ_8⟩ - y15
    try dsimp only at y15 ⊢
    obtain ⟨hσ_8, flσ_8, g12, g13, g14⟩ := y15
    have frσ_8 : FR [kR_at, kR_faultKind, kR_faultPlace, kR_pointMany, kR_value, kR_xs, kR_ys] σ σ_8 := FR_le flσ_8 (by decide)
    have nfσ_8 : NF σ σ_8 := NF_fr (NF_refl _) flσ_8 (by decide)
    have c16 := ii_kR_at hσ_8 0
    try simp (disch := omega) only [w32_of, w64_of, w8_of] at g12
    try simp (disch := omega) only [w32_of, w64_of, w8_of] at g13
    have c17 := ii_kR_value hσ_8 0
    try simp (disch := omega) only [w32_of, w64_of, w8_of] at g14
    refine wp_if (fun c18 => ?_) (fun c18 => ?_)
    · have k19 := g14 c18
      try simp (disch := omega) only [w32_of, w64_of, w8_of] at k19
      try simp (disch := omega) only [w32_of, w64_of, w8_of, decide_eq_true_eq, decide_eq_false_iff_not, Bool.not_eq_true] at c18
      have c20 := ii_kR_size hσ_8 0
      have c21 := FR_at flσ_8 (c := kR_size) (by decide) 0
      refine wp_bd (v_ordinateOfBytes (σ := σ_8) hσ_8 (by (try dsimp only) <;> first | assumption | omega | ((try simp (disch := omega) only [w32_of, w64_of, w8_of]) <;> first | assumption | omega | (split <;> omega) | (refine And.intro ?_ ?_ <;> split <;> omega)) | omega)) ?_
      rintro ⟨x_13, σ_12⟩ - y25
      try dsimp only at y25 ⊢
      obtain ⟨hσ_12, flσ_12, g22, g23, g24⟩ := y25
      have frσ_12 : FR [kR_at, kR_faultKind, kR_faultPlace, kR_pointMany, kR_value, kR_xs, kR_ys] σ σ_12 := FR_tr frσ_8 flσ_12 (by decide) (by decide)
      have nfσ_12 : NF σ σ_12 := NF_fr nfσ_8 flσ_12 (by decide)
      have c26 := ii_kR_at hσ_12 0
      try simp (disch := omega) only [w32_of, w64_of, w8_of] at g22
      try simp (disch := omega) only [w32_of, w64_of, w8_of] at g23
      have c27 := ii_kR_value hσ_12 0
      try simp (disch := omega) only [w32_of, w64_of, w8_of] at g24
      refine wp_if (fun c28 => ?_) (fun c28 => ?_)
      · have k29 := g24 c28
        try simp (disch := omega) only [w32_of, w64_of, w8_of] at k29
        try simp (disch := omega) only [w32_of, w64_of, w8_of, decide_eq_true_eq, decide_eq_false_iff_not, Bool.not_eq_true] at c28
        have c30 := ii_kR_pointMany hσ_12 32
        have c31 := FR_at flσ_12 (c := kR_pointMany) (by decide) 32
        have c32 := ii_kR_pointMany hσ_8 32
        have c33 := FR_at flσ_8 (c := kR_pointMany) (by decide) 32
        refine wp_bd (v_dot (σ := σ_12) (x_0 := (σ_8 kR_value 0)) (y_0 := (σ_12 kR_value 0)) hσ_12 (by (try dsimp only) <;> first | assumption | omega | ((try simp (disch := omega) only [w32_of, w64_of, w8_of]) <;> first | assumption | omega | (split <;> omega) | (refine And.intro ?_ ?_ <;> split <;> omega)) | omega) (by (try dsimp only) <;> first | assumption | omega | ((try simp (disch := omega) only [w32_of, w64_of, w8_of]) <;> first | assumption | omega | (split <;> omega) | (refine And.intro ?_ ?_ <;> split <;> omega)) | omega) (by (try dsimp only) <;> first | assumption | omega | ((try simp (disch := omega) only [w32_of, w64_of, w8_of]) <;> first | assumption | omega | (split <;> omega) | (refine And.intro ?_ ?_ <;> split <;> omega)) | omega) (by (try dsimp only) <;> first | assumption | omega | ((try simp (disch := omega) only [w32_of, w64_of, w8_of]) <;> first | assumption | omega | (split <;> omega) | (refine And.intro ?_ ?_ <;> split <;> omega)) | omega) (by (try dsimp only) <;> first | assumption | omega | ((try simp (disch := omega) only [w32_of, w64_of, w8_of]) <;> first | assumption | omega | (split <;> omega) | (refine And.intro ?_ ?_ <;> split <;> omega)) | omega)) ?_
        rintro σ_16 - ⟨hσ_16, flσ_16, ngσ_16, g34⟩
        have frσ_16 : FR [kR_at, kR_faultKind, kR_faultPlace, kR_pointMany, kR_value, kR_xs, kR_ys] σ σ_16 := FR_tr frσ_12 flσ_16 (by decide) (by decide)
        have nfσ_16 : NF σ σ_16 := NF_tr nfσ_12 ngσ_16
        have c35 := ii_kR_pointMany hσ_16 32
        try simp (disch := omega) only [w32_of, w64_of, w8_of] at g34
        have c36 := ii_kR_at hσ_16 0
        have c37 := FR_at flσ_16 (c := kR_at) (by decide) 0
        exact wp_some ⟨hσ_16, frσ_16, nfσ_16, (by (try dsimp only) <;> first | assumption | omega | ((try simp (disch := omega) only [w32_of, w64_of, w8_of]) <;> first | assumption | omega | (split <;> omega) | (refine And.intro ?_ ?_ <;> split <;> omega)) | omega), (by (try dsimp only) <;> first | assumption | omega | ((try simp (disch := omega) only [w32_of, w64_of, w8_of]) <;> first | assumption | omega | (split <;> omega) | (refine And.intro ?_ ?_ <;> split <;> omega)) | omega), (by intro q9; (try dsimp only) <;> first | assumption | omega | ((try simp (disch := omega) only [w32_of, w64_of, w8_of]) <;> first | assumption | omega | (split <;> omega) | (refine And.intro ?_ ?_ <;> split <;> omega)) | omega)⟩
      · try simp (disch := omega) only [w32_of, w64_of, w8_of, decide_eq_true_eq, decide_eq_false_iff_not, Bool.not_eq_true] at c28
        have c39 := ii_kR_pointMany hσ_12 32
        have c40 := FR_at flσ_12 (c := kR_pointMany) (by decide) 32
        have c41 := ii_kR_pointMany hσ_8 32
        have c42 := FR_at flσ_8 (c := kR_pointMany) (by decide) 32
        exact wp_some ⟨hσ_12, frσ_12, nfσ_12, (by (try dsimp only) <;> first | assumption | omega | ((try simp (disch := omega) only [w32_of, w64_of, w8_of]) <;> first | assumption | omega | (split <;> omega) | (refine And.intro ?_ ?_ <;> split <;> omega)) | omega), (by (try dsimp only) <;> first | assumption | omega | ((try simp (disch := omega) only [w32_of, w64_of, w8_of]) <;> first | assumption | omega | (split <;> omega) | (refine And.intro ?_ ?_ <;> split <;> omega)) | omega), (fun q => (by cases q))⟩
    · try simp (disch := omega) only [w32_of, w64_of, w8_of, decide_eq_true_eq, decide_eq_false_iff_not, Bool.not_eq_true] at c18
      have c44 := ii_kR_pointMany hσ_8 32
      have c45 := FR_at flσ_8 (c := kR_pointMany) (by decide) 32
      exact wp_some ⟨hσ_8, frσ_8, nfσ_8, (by (try dsimp only) <;> first | assumption | omega | ((try simp (disch := omega) only [w32_of, w64_of, w8_of]) <;> first | assumption | omega | (split <;> omega) | (refine And.intro ?_ ?_ <;> split <;> omega)) | omega), (by (try dsimp only) <;> first | assumption | omega | ((try simp (disch := omega) only [w32_of, w64_of, w8_of]) <;> first | assumption | omega | (split <;> omega) | (refine And.intro ?_ ?_ <;> split <;> omega)) | omega), (fun q => (by cases q))⟩
theorem v_rowOfBytes {σ : SG} {count_0 : Int} (hσ : II σ) (qcount_0 : (-9223372036854775808) ≤ count_0 ∧ count_0 ≤ 9223372036854775807) (w0 : σ kR_at 0 ≤ σ kR_size 0) (w1 : 0 ≤ count_0 ∧ count_0 < 4294967296) : wp_ (fR_rowOfBytes σ count_0) (fun zz_ => II zz_.2 ∧ FR [kR_at, kR_faultKind, kR_faultPlace, kR_pointMany, kR_value, kR_xs, kR_ys] σ zz_.2 ∧ NF σ zz_.2 ∧ (σ kR_at 0 ≤ zz_.2 kR_at 0) ∧ (zz_.2 kR_at 0 ≤ σ kR_size 0) ∧ ((zz_.1 = true) → zz_.2 kR_pointMany 32 = σ kR_pointMany 32 + count_0)) := by
  unfold fR_rowOfBytes
  have c1 := ii_kR_at hσ 0
  have c2 := ii_kR_size hσ 0
  refine wp_bx (P := fun rr_ => (0 ≤ rr_.1 ∧ rr_.1 ≤ 9223372036854775807) ∧ II rr_.2 ∧ FR [kR_at, kR_faultKind, kR_faultPlace, kR_pointMany, kR_value, kR_xs, kR_ys] σ rr_.2 ∧ NF σ rr_.2 ∧ (σ kR_at 0 ≤ rr_.2 kR_at 0) ∧ (rr_.2 kR_at 0 ≤ σ kR_size 0) ∧ (rr_.2 kR_pointMany 32 = σ kR_pointMany 32 + count_0)) ?_ ?_
  · have c3 := ii_kR_pointMany hσ 32
    refine wp_whl (fun ss_ => II ss_.2 ∧ FR [kR_at, kR_faultKind, kR_faultPlace, kR_pointMany, kR_value, kR_xs, kR_ys] σ ss_.2 ∧ NF σ ss_.2 ∧ (σ kR_at 0 ≤ ss_.2 kR_at 0) ∧ (ss_.2 kR_at 0 ≤ σ kR_size 0) ∧ (0 ≤ ss_.1 ∧ ss_.1 ≤ count_0) ∧ (ss_.2 kR_pointMany 32 = σ kR_pointMany 32 + ss_.1)) (fun ss_ => (4096 - ss_.1).toNat) ⟨hσ, (FR_refl _ _), (NF_refl _), (by (try dsimp only) <;> first | assumption | omega | ((try simp (disch := omega) only [w32_of, w64_of, w8_of]) <;> first | assumption | omega | (split <;> omega) | (refine And.intro ?_ ?_ <;> split <;> omega)) | omega), (by (try dsimp only) <;> first | assumption | omega | ((try simp (disch := omega) only [w32_of, w64_of, w8_of]) <;> first | assumption | omega | (split <;> omega) | (refine And.intro ?_ ?_ <;> split <;> omega)) | omega), (by (try dsimp only) <;> first | assumption | omega | ((try simp (disch := omega) only [w32_of, w64_of, w8_of]) <;> first | assumption | omega | (split <;> omega) | (refine And.intro ?_ ?_ <;> split <;> omega)) | omega), (by (try dsimp only) <;> first | assumption | omega | ((try simp (disch := omega) only [w32_of, w64_of, w8_of]) <;> first | assumption | omega | (split <;> omega) | (refine And.intro ?_ ?_ <;> split <;> omega)) | omega)⟩ ?_
    rintro ⟨k_1, σ_2⟩ y8
    try dsimp only at y8 ⊢
    obtain ⟨hσ_2, frσ_2, nfσ_2, g4, g5, g6, g7⟩ := y8
    have bpm := ii_kR_pointMany hσ_2 32
    have bp0 := ii_kR_pointMany hσ 32
    have c10 := w64_rng k_1
    have c11 := w64_rng count_0
    refine wp_if (fun c9 => ?_) (fun c9 => ?_)
    · try simp (disch := omega) only [w32_of, w64_of, w8_of, decide_eq_true_eq, decide_eq_false_iff_not, Bool.not_eq_true] at c9
      have c12 := ii_kR_at hσ_2 0
      have c13 := ii_kR_size hσ_2 0
      have c14 := FR_at frσ_2 (c := kR_size) (by decide) 0
      refine wp_bd (v_coordinateOfBytes (σ := σ_2) hσ_2 (by (try dsimp only) <;> first | assumption | omega | ((try simp (disch := omega) only [w32_of, w64_of, w8_of]) <;> first | assumption | omega | (split <;> omega) | (refine And.intro ?_ ?_ <;> split <;> omega)) | omega)) ?_
      rintro ⟨x_13, σ_12⟩ - y18
      try dsimp only at y18 ⊢
      obtain ⟨hσ_12, flσ_12, ngσ_12, g15, g16, g17⟩ := y18
      have frσ_12 : FR [kR_at, kR_faultKind, kR_faultPlace, kR_pointMany, kR_value, kR_xs, kR_ys] σ σ_12 := FR_tr frσ_2 flσ_12 (by decide) (by decide)
      have nfσ_12 : NF σ σ_12 := NF_tr nfσ_2 ngσ_12
      have c19 := ii_kR_at hσ_12 0
      try simp (disch := omega) only [w32_of, w64_of, w8_of] at g15
      try simp (disch := omega) only [w32_of, w64_of, w8_of] at g16
      have c20 := ii_kR_pointMany hσ_12 32
      have c21 := ii_kR_pointMany hσ_2 32
      try simp (disch := omega) only [w32_of, w64_of, w8_of] at g17
      refine wp_if (fun c22 => ?_) (fun c22 => ?_)
      · have k23 := g17 c22
        try simp (disch := omega) only [w32_of, w64_of, w8_of] at k23
        try simp (disch := omega) only [w32_of, w64_of, w8_of, decide_eq_true_eq, decide_eq_false_iff_not, Bool.not_eq_true] at c22
        exact wp_some (x_inl ⟨⟨hσ_12, frσ_12, nfσ_12, (by (try dsimp only) <;> first | assumption | omega | ((try simp (disch := omega) only [w32_of, w64_of, w8_of]) <;> first | assumption | omega | (split <;> omega) | (refine And.intro ?_ ?_ <;> split <;> omega)) | omega), (by (try dsimp only) <;> first | assumption | omega | ((try simp (disch := omega) only [w32_of, w64_of, w8_of]) <;> first | assumption | omega | (split <;> omega) | (refine And.intro ?_ ?_ <;> split <;> omega)) | omega), (by (try dsimp only) <;> first | assumption | omega | ((try simp (disch := omega) only [w32_of, w64_of, w8_of]) <;> first | assumption | omega | (split <;> omega) | (refine And.intro ?_ ?_ <;> split <;> omega)) | omega), (by (try dsimp only) <;> first | assumption | omega | ((try simp (disch := omega) only [w32_of, w64_of, w8_of]) <;> first | assumption | omega | (split <;> omega) | (refine And.intro ?_ ?_ <;> split <;> omega)) | omega)⟩, (by (try dsimp only) <;> first | assumption | omega | ((try simp (disch := omega) only [w32_of, w64_of, w8_of]) <;> first | assumption | omega | (split <;> omega) | (refine And.intro ?_ ?_ <;> split <;> omega)) | omega)⟩)
      · try simp (disch := omega) only [w32_of, w64_of, w8_of, decide_eq_true_eq, decide_eq_false_iff_not, Bool.not_eq_true] at c22
        exact wp_some (x_inr (x_inr ⟨hσ_12, frσ_12, nfσ_12, (by (try dsimp only) <;> first | assumption | omega | ((try simp (disch := omega) only [w32_of, w64_of, w8_of]) <;> first | assumption | omega | (split <;> omega) | (refine And.intro ?_ ?_ <;> split <;> omega)) | omega), (by (try dsimp only) <;> first | assumption | omega | ((try simp (disch := omega) only [w32_of, w64_of, w8_of]) <;> first | assumption | omega | (split <;> omega) | (refine And.intro ?_ ?_ <;> split <;> omega)) | omega), (fun q => (by cases q))⟩))
    · try simp (disch := omega) only [w32_of, w64_of, w8_of, decide_eq_true_eq, decide_eq_false_iff_not, Bool.not_eq_true] at c9
      have c25 := ii_kR_at hσ_2 0
      have c26 := ii_kR_pointMany hσ_2 32
      exact wp_some (x_inr (x_inl ⟨(by (try dsimp only) <;> first | assumption | omega | ((try simp (disch := omega) only [w32_of, w64_of, w8_of]) <;> first | assumption | omega | (split <;> omega) | (refine And.intro ?_ ?_ <;> split <;> omega)) | omega), hσ_2, frσ_2, nfσ_2, (by (try dsimp only) <;> first | assumption | omega | ((try simp (disch := omega) only [w32_of, w64_of, w8_of]) <;> first | assumption | omega | (split <;> omega) | (refine And.intro ?_ ?_ <;> split <;> omega)) | omega), (by (try dsimp only) <;> first | assumption | omega | ((try simp (disch := omega) only [w32_of, w64_of, w8_of]) <;> first | assumption | omega | (split <;> omega) | (refine And.intro ?_ ?_ <;> split <;> omega)) | omega), (by (try dsimp only) <;> first | assumption | omega | ((try simp (disch := omega) only [w32_of, w64_of, w8_of]) <;> first | assumption | omega | (split <;> omega) | (refine And.intro ?_ ?_ <;> split <;> omega)) | omega)⟩))
  rintro ⟨k_17, σ_18⟩ y31
  try dsimp only at y31 ⊢
  obtain ⟨g27, hσ_18, frσ_18, nfσ_18, g28, g29, g30⟩ := y31
  have c32 := ii_kR_at hσ_18 0
  have c33 := ii_kR_pointMany hσ_18 32
  have c34 := ii_kR_pointMany hσ 32
  exact wp_some ⟨hσ_18, frσ_18, nfσ_18, (by (try dsimp only) <;> first | assumption | omega | ((try simp (disch := omega) only [w32_of, w64_of, w8_of]) <;> first | assumption | omega | (split <;> omega) | (refine And.intro ?_ ?_ <;> split <;> omega)) | omega), (by (try dsimp only) <;> first | assumption | omega | ((try simp (disch := omega) only [w32_of, w64_of, w8_of]) <;> first | assumption | omega | (split <;> omega) | (refine And.intro ?_ ?_ <;> split <;> omega)) | omega), (by intro q9; (try dsimp only) <;> first | assumption | omega | ((try simp (disch := omega) only [w32_of, w64_of, w8_of]) <;> first | assumption | omega | (split <;> omega) | (refine And.intro ?_ ?_ <;> split <;> omega)) | omega)⟩
theorem v_ringsOfBytes {σ : SG} {count_0 : Int} (hσ : II σ) (qcount_0 : (-9223372036854775808) ≤ count_0 ∧ count_0 ≤ 9223372036854775807) (w0 : σ kR_at 0 ≤ σ kR_size 0) (w1 : 0 ≤ count_0 ∧ count_0 < 4294967296) : wp_ (fR_ringsOfBytes σ count_0) (fun zz_ => II zz_.2 ∧ FR [kR_at, kR_faultKind, kR_faultPlace, kR_plan, kR_planMany, kR_pointMany, kR_value, kR_xs, kR_ys] σ zz_.2 ∧ NF σ zz_.2 ∧ (σ kR_at 0 ≤ zz_.2 kR_at 0) ∧ (zz_.2 kR_at 0 ≤ σ kR_size 0) ∧ ((zz_.1 = true) → zz_.2 kR_planMany 32 = σ kR_planMany 32 + count_0) ∧ ((zz_.1 = true) → ∀ k, 0 ≤ k → k < count_0 → 0 ≤ zz_.2 kR_plan (65536 + σ kR_planMany 32 + k)) ∧ ((zz_.1 = true) → zz_.2 kR_pointMany 32 = σ kR_pointMany 32 + su_ (zz_.2 kR_plan) (65536 + σ kR_planMany 32) count_0.toNat) ∧ (∀ i, i < 65536 + σ kR_planMany 32 → zz_.2 kR_plan i = σ kR_plan i)) := by
  unfold fR_ringsOfBytes
  have c1 := ii_kR_at hσ 0
  have c2 := ii_kR_size hσ 0
  refine wp_bx (P := fun rr_ => (0 ≤ rr_.1 ∧ rr_.1 ≤ 9223372036854775807) ∧ II rr_.2 ∧ FR [kR_at, kR_faultKind, kR_faultPlace, kR_plan, kR_planMany, kR_pointMany, kR_value, kR_xs, kR_ys] σ rr_.2 ∧ NF σ rr_.2 ∧ (σ kR_at 0 ≤ rr_.2 kR_at 0) ∧ (rr_.2 kR_at 0 ≤ σ kR_size 0) ∧ (rr_.2 kR_planMany 32 = σ kR_planMany 32 + count_0) ∧ (∀ k, 0 ≤ k → k < count_0 → 0 ≤ rr_.2 kR_plan (65536 + σ kR_planMany 32 + k)) ∧ (rr_.2 kR_pointMany 32 = σ kR_pointMany 32 + su_ (rr_.2 kR_plan) (65536 + σ kR_planMany 32) count_0.toNat) ∧ (∀ i, i < 65536 + σ kR_planMany 32 → rr_.2 kR_plan i = σ kR_plan i)) ?_ ?_
  · have c3 := ii_kR_planMany hσ 32
    have c4 := ii_kR_pointMany hσ 32
    refine wp_whl (fun ss_ => II ss_.2 ∧ FR [kR_at, kR_faultKind, kR_faultPlace, kR_plan, kR_planMany, kR_pointMany, kR_value, kR_xs, kR_ys] σ ss_.2 ∧ NF σ ss_.2 ∧ (σ kR_at 0 ≤ ss_.2 kR_at 0) ∧ (ss_.2 kR_at 0 ≤ σ kR_size 0) ∧ (0 ≤ ss_.1 ∧ ss_.1 ≤ count_0) ∧ (ss_.2 kR_planMany 32 = σ kR_planMany 32 + ss_.1) ∧ (∀ k, 0 ≤ k → k < ss_.1 → 0 ≤ ss_.2 kR_plan (65536 + σ kR_planMany 32 + k)) ∧ (ss_.2 kR_pointMany 32 = σ kR_pointMany 32 + su_ (ss_.2 kR_plan) (65536 + σ kR_planMany 32) ss_.1.toNat) ∧ (∀ i, i < 65536 + σ kR_planMany 32 → ss_.2 kR_plan i = σ kR_plan i)) (fun ss_ => (4096 - ss_.1).toNat) ⟨hσ, (FR_refl _ _), (NF_refl _), (by (try dsimp only) <;> first | assumption | omega | ((try simp (disch := omega) only [w32_of, w64_of, w8_of]) <;> first | assumption | omega | (split <;> omega) | (refine And.intro ?_ ?_ <;> split <;> omega)) | omega), (by (try dsimp only) <;> first | assumption | omega | ((try simp (disch := omega) only [w32_of, w64_of, w8_of]) <;> first | assumption | omega | (split <;> omega) | (refine And.intro ?_ ?_ <;> split <;> omega)) | omega), (by (try dsimp only) <;> first | assumption | omega | ((try simp (disch := omega) only [w32_of, w64_of, w8_of]) <;> first | assumption | omega | (split <;> omega) | (refine And.intro ?_ ?_ <;> split <;> omega)) | omega), (by (try dsimp only) <;> first | assumption | omega | ((try simp (disch := omega) only [w32_of, w64_of, w8_of]) <;> first | assumption | omega | (split <;> omega) | (refine And.intro ?_ ?_ <;> split <;> omega)) | omega), (by (try dsimp only) <;> (first | exact gk | (intro k a b; omega) | (intro k a b; by_cases q : k = k_1 <;> first | (rw [q, pe]; omega) | (rw [po _ (by omega)]; exact gk k a (by omega))))), (by (try dsimp only) <;> (first | exact gh | (show _ = _ + (0 : Int); omega) | (rw [su_i (by omega), pe, su_cg (pm := σ_2 kR_plan) (fun i a b => po i (by omega))]; omega))), (by (try dsimp only) <;> (first | exact gn | (intro i hi; rfl) | (intro i hi; rw [po i (by omega)]; exact gn i hi)))⟩ ?_
    rintro ⟨k_1, σ_2⟩ y9
    try dsimp only at y9 ⊢
    obtain ⟨hσ_2, frσ_2, nfσ_2, g5, g6, g7, g8, gk, gh, gn⟩ := y9
    have bpm := ii_kR_planMany hσ_2 32
    have bp0 := ii_kR_planMany hσ 32
    have c11 := w64_rng k_1
    have c12 := w64_rng count_0
    refine wp_if (fun c10 => ?_) (fun c10 => ?_)
    · try simp (disch := omega) only [w32_of, w64_of, w8_of, decide_eq_true_eq, decide_eq_false_iff_not, Bool.not_eq_true] at c10
      refine wp_rdI (by (try dsimp only) <;> first | assumption | omega | ((try simp (disch := omega) only [w32_of, w64_of, w8_of]) <;> first | assumption | omega | (split <;> omega) | (refine And.intro ?_ ?_ <;> split <;> omega)) | omega) (by (try dsimp only) <;> first | assumption | omega | ((try simp (disch := omega) only [w32_of, w64_of, w8_of]) <;> first | assumption | omega | (split <;> omega) | (refine And.intro ?_ ?_ <;> split <;> omega)) | omega) (fun x_11 e_x_11 => ?_)
      have b_x_11 : 0 ≤ x_11 ∧ x_11 ≤ 2048 := by rw [e_x_11]; exact ii_kR_planMany hσ_2 _
      try simp (disch := omega) only [w32_of, w64_of, w8_of] at e_x_11
      have c13 := ii_kR_planMany hσ_2 32
      have c15 := w32_rng x_11
      refine wp_if (fun c14 => ?_) (fun c14 => ?_)
      · try simp (disch := omega) only [w32_of, w64_of, w8_of, decide_eq_true_eq, decide_eq_false_iff_not, Bool.not_eq_true] at c14
        have c16 := ii_kR_at hσ_2 0
        refine wp_bd (v_wrong (σ := σ_2) (kind_0 := 7) (where_0 := (σ_2 kR_at 0)) hσ_2 (by (try dsimp only) <;> first | assumption | omega | ((try simp (disch := omega) only [w32_of, w64_of, w8_of]) <;> first | assumption | omega | (split <;> omega) | (refine And.intro ?_ ?_ <;> split <;> omega)) | omega) (by (try dsimp only) <;> first | assumption | omega | ((try simp (disch := omega) only [w32_of, w64_of, w8_of]) <;> first | assumption | omega | (split <;> omega) | (refine And.intro ?_ ?_ <;> split <;> omega)) | omega)) ?_
        rintro ⟨x_16, σ_15⟩ - y18
        try dsimp only at y18 ⊢
        obtain ⟨hσ_15, flσ_15, g17⟩ := y18
        have frσ_15 : FR [kR_at, kR_faultKind, kR_faultPlace, kR_plan, kR_planMany, kR_pointMany, kR_value, kR_xs, kR_ys] σ σ_15 := FR_tr frσ_2 flσ_15 (by decide) (by decide)
        have nfσ_15 : NF σ σ_15 := NF_fr nfσ_2 flσ_15 (by decide)
        try simp (disch := omega) only [w32_of, w64_of, w8_of] at g17
        have c19 := ii_kR_at hσ_15 0
        have c20 := FR_at flσ_15 (c := kR_at) (by decide) 0
        have c21 := ii_kR_planMany hσ_15 32
        have c22 := FR_at flσ_15 (c := kR_planMany) (by decide) 32
        have c23 := ii_kR_pointMany hσ_15 32
        have c24 := FR_at flσ_15 (c := kR_pointMany) (by decide) 32
        have c25 := ii_kR_pointMany hσ_2 32
        exact wp_some (x_inr (x_inr ⟨hσ_15, frσ_15, nfσ_15, (by (try dsimp only) <;> first | assumption | omega | ((try simp (disch := omega) only [w32_of, w64_of, w8_of]) <;> first | assumption | omega | (split <;> omega) | (refine And.intro ?_ ?_ <;> split <;> omega)) | omega), (by (try dsimp only) <;> first | assumption | omega | ((try simp (disch := omega) only [w32_of, w64_of, w8_of]) <;> first | assumption | omega | (split <;> omega) | (refine And.intro ?_ ?_ <;> split <;> omega)) | omega), (fun q => absurd (q.symm.trans g17) (by decide)), (fun q => absurd (q.symm.trans g17) (by decide)), (fun q => absurd (q.symm.trans g17) (by decide)), (by (try dsimp only) <;> (first | exact gn | (intro i hi; rw [FR_at flσ_15 (c := kR_plan) (by decide)]; exact gn i hi) | (intro i hi; rw [FR_at flσ_22 (c := kR_plan) (by decide)]; exact gn i hi) | (intro i hi; rw [FR_at flσ_33 (c := kR_plan) (by decide)]; exact gn i hi) | (intro i hi; rw [FR_at flσ_28 (c := kR_plan) (by decide), gt3 i (by omega), FR_at flσ_24 (c := kR_plan) (by decide)]; exact gn i hi)))⟩))
      · try simp (disch := omega) only [w32_of, w64_of, w8_of, decide_eq_true_eq, decide_eq_false_iff_not, Bool.not_eq_true] at c14
        have c27 := ii_kR_at hσ_2 0
        have c28 := ii_kR_size hσ_2 0
        have c29 := FR_at frσ_2 (c := kR_size) (by decide) 0
        refine wp_if (fun c26 => ?_) (fun c26 => ?_)
        · try simp (disch := omega) only [w32_of, w64_of, w8_of, decide_eq_true_eq, decide_eq_false_iff_not, Bool.not_eq_true, fR_there] at c26
          refine wp_bd (v_whole (σ := σ_2) (from_0 := (σ_2 kR_at 0)) (n_0 := 4) hσ_2 (by (try dsimp only) <;> first | assumption | omega | ((try simp (disch := omega) only [w32_of, w64_of, w8_of]) <;> first | assumption | omega | (split <;> omega) | (refine And.intro ?_ ?_ <;> split <;> omega)) | omega) (by (try dsimp only) <;> first | assumption | omega | ((try simp (disch := omega) only [w32_of, w64_of, w8_of]) <;> first | assumption | omega | (split <;> omega) | (refine And.intro ?_ ?_ <;> split <;> omega)) | omega) (by (try dsimp only) <;> first | assumption | omega | ((try simp (disch := omega) only [w32_of, w64_of, w8_of]) <;> first | assumption | omega | (split <;> omega) | (refine And.intro ?_ ?_ <;> split <;> omega)) | omega) (by (try dsimp only) <;> first | assumption | omega | ((try simp (disch := omega) only [w32_of, w64_of, w8_of]) <;> first | assumption | omega | (split <;> omega) | (refine And.intro ?_ ?_ <;> split <;> omega)) | omega)) ?_
          rintro x_19 - g30
          try simp (disch := omega) only [w32_of, w64_of, w8_of] at g30
          have c32 := w64_rng x_19
          refine wp_if (fun c31 => ?_) (fun c31 => ?_)
          · try simp (disch := omega) only [w32_of, w64_of, w8_of, decide_eq_true_eq, decide_eq_false_iff_not, Bool.not_eq_true] at c31
            refine wp_bd (v_wrong (σ := σ_2) (kind_0 := 4) (where_0 := (σ_2 kR_at 0)) hσ_2 (by (try dsimp only) <;> first | assumption | omega | ((try simp (disch := omega) only [w32_of, w64_of, w8_of]) <;> first | assumption | omega | (split <;> omega) | (refine And.intro ?_ ?_ <;> split <;> omega)) | omega) (by (try dsimp only) <;> first | assumption | omega | ((try simp (disch := omega) only [w32_of, w64_of, w8_of]) <;> first | assumption | omega | (split <;> omega) | (refine And.intro ?_ ?_ <;> split <;> omega)) | omega)) ?_
            rintro ⟨x_23, σ_22⟩ - y34
            try dsimp only at y34 ⊢
            obtain ⟨hσ_22, flσ_22, g33⟩ := y34
            have frσ_22 : FR [kR_at, kR_faultKind, kR_faultPlace, kR_plan, kR_planMany, kR_pointMany, kR_value, kR_xs, kR_ys] σ σ_22 := FR_tr frσ_2 flσ_22 (by decide) (by decide)
            have nfσ_22 : NF σ σ_22 := NF_fr nfσ_2 flσ_22 (by decide)
            try simp (disch := omega) only [w32_of, w64_of, w8_of] at g33
            have c35 := ii_kR_at hσ_22 0
            have c36 := FR_at flσ_22 (c := kR_at) (by decide) 0
            have c37 := ii_kR_planMany hσ_22 32
            have c38 := FR_at flσ_22 (c := kR_planMany) (by decide) 32
            have c39 := ii_kR_pointMany hσ_22 32
            have c40 := FR_at flσ_22 (c := kR_pointMany) (by decide) 32
            have c41 := ii_kR_pointMany hσ_2 32
            exact wp_some (x_inr (x_inr ⟨hσ_22, frσ_22, nfσ_22, (by (try dsimp only) <;> first | assumption | omega | ((try simp (disch := omega) only [w32_of, w64_of, w8_of]) <;> first | assumption | omega | (split <;> omega) | (refine And.intro ?_ ?_ <;> split <;> omega)) | omega), (by (try dsimp only) <;> first | assumption | omega | ((try simp (disch := omega) only [w32_of, w64_of, w8_of]) <;> first | assumption | omega | (split <;> omega) | (refine And.intro ?_ ?_ <;> split <;> omega)) | omega), (fun q => absurd (q.symm.trans g33) (by decide)), (fun q => absurd (q.symm.trans g33) (by decide)), (fun q => absurd (q.symm.trans g33) (by decide)), (by (try dsimp only) <;> (first | exact gn | (intro i hi; rw [FR_at flσ_15 (c := kR_plan) (by decide)]; exact gn i hi) | (intro i hi; rw [FR_at flσ_22 (c := kR_plan) (by decide)]; exact gn i hi) | (intro i hi; rw [FR_at flσ_33 (c := kR_plan) (by decide)]; exact gn i hi) | (intro i hi; rw [FR_at flσ_28 (c := kR_plan) (by decide), gt3 i (by omega), FR_at flσ_24 (c := kR_plan) (by decide)]; exact gn i hi)))⟩))
          · try simp (disch := omega) only [w32_of, w64_of, w8_of, decide_eq_true_eq, decide_eq_false_iff_not, Bool.not_eq_true] at c31
            refine wp_wfI hσ_2 b_kR_at (by (try dsimp only) <;> first | assumption | omega | ((try simp (disch := omega) only [w32_of, w64_of, w8_of]) <;> first | assumption | omega | (split <;> omega) | (refine And.intro ?_ ?_ <;> split <;> omega)) | omega) (fun σ_24 hσ_24 eσ_24 => ?_)
            try simp (disch := omega) only [w32_of, w64_of, w8_of] at eσ_24
            have flσ_24 := FR_sg eσ_24
            have frσ_24 : FR [kR_at, kR_faultKind, kR_faultPlace, kR_plan, kR_planMany, kR_pointMany, kR_value, kR_xs, kR_ys] σ σ_24 := FR_tr frσ_2 flσ_24 (by decide) (by decide)
            have nfσ_24 : NF σ σ_24 := NF_fr nfσ_2 flσ_24 (by decide)
            have c42 := ii_kR_planMany hσ_24 32
            have c43 := FR_at flσ_24 (c := kR_planMany) (by decide) 32
            refine wp_bd (v_tell (σ := σ_24) (v_0 := x_19) hσ_24 (by (try dsimp only) <;> first | assumption | omega | ((try simp (disch := omega) only [w32_of, w64_of, w8_of]) <;> first | assumption | omega | (split <;> omega) | (refine And.intro ?_ ?_ <;> split <;> omega)) | omega)) ?_
            rintro σ_26 - ⟨hσ_26, flσ_26, ngσ_26, gt1, gt2, gt3⟩
            have frσ_26 : FR [kR_at, kR_faultKind, kR_faultPlace, kR_plan, kR_planMany, kR_pointMany, kR_value, kR_xs, kR_ys] σ σ_26 := FR_tr frσ_24 flσ_26 (by decide) (by decide)
            have nfσ_26 : NF σ σ_26 := NF_tr nfσ_24 ngσ_26
            have c44 := ii_kR_planMany hσ_26 32
            try simp (disch := omega) only [w32_of, w64_of, w8_of] at gt1
            try simp (disch := omega) only [w32_of, w64_of, w8_of] at gt2
            try simp (disch := omega) only [w32_of, w64_of, w8_of] at gt3
            have m24 : σ_24 kR_planMany 32 = σ_2 kR_planMany 32 := FR_at flσ_24 (c := kR_planMany) (by decide) 32
            have q24 : σ_26 kR_pointMany 32 = σ_2 kR_pointMany 32 := by rw [FR_at flσ_26 (c := kR_pointMany) (by decide), FR_at flσ_24 (c := kR_pointMany) (by decide)]
            have c45 := ii_kR_at hσ_26 0
            have c46 := FR_at flσ_26 (c := kR_at) (by decide) 0
            have c47 := ii_kR_at hσ_24 0
            have c48 := sg_val eσ_24
            have c49 := ii_kR_size hσ_26 0
            have c50 := FR_at flσ_26 (c := kR_size) (by decide) 0
            have c51 := ii_kR_size hσ_24 0
            have c52 := FR_at flσ_24 (c := kR_size) (by decide) 0
            refine wp_bd (v_rowOfBytes (σ := σ_26) (count_0 := x_19) hσ_26 (by (try dsimp only) <;> first | assumption | omega | ((try simp (disch := omega) only [w32_of, w64_of, w8_of]) <;> first | assumption | omega | (split <;> omega) | (refine And.intro ?_ ?_ <;> split <;> omega)) | omega) (by (try dsimp only) <;> first | assumption | omega | ((try simp (disch := omega) only [w32_of, w64_of, w8_of]) <;> first | assumption | omega | (split <;> omega) | (refine And.intro ?_ ?_ <;> split <;> omega)) | omega) (by (try dsimp only) <;> first | assumption | omega | ((try simp (disch := omega) only [w32_of, w64_of, w8_of]) <;> first | assumption | omega | (split <;> omega) | (refine And.intro ?_ ?_ <;> split <;> omega)) | omega)) ?_
            rintro ⟨x_29, σ_28⟩ - y56
            try dsimp only at y56 ⊢
            obtain ⟨hσ_28, flσ_28, ngσ_28, g53, g54, g55⟩ := y56
            have frσ_28 : FR [kR_at, kR_faultKind, kR_faultPlace, kR_plan, kR_planMany, kR_pointMany, kR_value, kR_xs, kR_ys] σ σ_28 := FR_tr frσ_26 flσ_28 (by decide) (by decide)
            have nfσ_28 : NF σ σ_28 := NF_tr nfσ_26 ngσ_28
            have c57 := ii_kR_at hσ_28 0
            try simp (disch := omega) only [w32_of, w64_of, w8_of] at g53
            try simp (disch := omega) only [w32_of, w64_of, w8_of] at g54
            have c58 := ii_kR_pointMany hσ_28 32
            have c59 := ii_kR_pointMany hσ_26 32
            have c60 := FR_at flσ_26 (c := kR_pointMany) (by decide) 32
            have c61 := ii_kR_pointMany hσ_24 32
            have c62 := FR_at flσ_24 (c := kR_pointMany) (by decide) 32
            have c63 := ii_kR_pointMany hσ_2 32
            try simp (disch := omega) only [w32_of, w64_of, w8_of] at g55
            refine wp_if (fun c64 => ?_) (fun c64 => ?_)
            · have k65 := g55 c64
              try simp (disch := omega) only [w32_of, w64_of, w8_of] at k65
              try simp (disch := omega) only [w32_of, w64_of, w8_of, decide_eq_true_eq, decide_eq_false_iff_not, Bool.not_eq_true] at c64
              have po : ∀ i, i < 65536 + σ kR_planMany 32 + k_1 → σ_28 kR_plan i = σ_2 kR_plan i := fun i hi => by rw [FR_at flσ_28 (c := kR_plan) (by decide), gt3 i (by omega), FR_at flσ_24 (c := kR_plan) (by decide)]
              have pe : σ_28 kR_plan (65536 + σ kR_planMany 32 + k_1) = x_19 := by rw [FR_at flσ_28 (c := kR_plan) (by decide), show 65536 + σ kR_planMany 32 + k_1 = 65536 + σ_24 kR_planMany 32 by omega]; exact gt2
              have c66 := ii_kR_planMany hσ_28 32
              have c67 := FR_at flσ_28 (c := kR_planMany) (by decide) 32
              exact wp_some (x_inl ⟨⟨hσ_28, frσ_28, nfσ_28, (by (try dsimp only) <;> first | assumption | omega | ((try simp (disch := omega) only [w32_of, w64_of, w8_of]) <;> first | assumption | omega | (split <;> omega) | (refine And.intro ?_ ?_ <;> split <;> omega)) | omega), (by (try dsimp only) <;> first | assumption | omega | ((try simp (disch := omega) only [w32_of, w64_of, w8_of]) <;> first | assumption | omega | (split <;> omega) | (refine And.intro ?_ ?_ <;> split <;> omega)) | omega), (by (try dsimp only) <;> first | assumption | omega | ((try simp (disch := omega) only [w32_of, w64_of, w8_of]) <;> first | assumption | omega | (split <;> omega) | (refine And.intro ?_ ?_ <;> split <;> omega)) | omega), (by (try dsimp only) <;> first | assumption | omega | ((try simp (disch := omega) only [w32_of, w64_of, w8_of]) <;> first | assumption | omega | (split <;> omega) | (refine And.intro ?_ ?_ <;> split <;> omega)) | omega), (by (try dsimp only) <;> (first | exact gk | (intro k a b; omega) | (intro k a b; by_cases q : k = k_1 <;> first | (rw [q, pe]; omega) | (rw [po _ (by omega)]; exact gk k a (by omega))))), (by (try dsimp only) <;> (first | exact gh | (show _ = _ + (0 : Int); omega) | (rw [su_i (by omega), pe, su_cg (pm := σ_2 kR_plan) (fun i a b => po i (by omega))]; omega))), (by (try dsimp only) <;> (first | exact gn | (intro i hi; rfl) | (intro i hi; rw [po i (by omega)]; exact gn i hi)))⟩, (by (try dsimp only) <;> first | assumption | omega | ((try simp (disch := omega) only [w32_of, w64_of, w8_of]) <;> first | assumption | omega | (split <;> omega) | (refine And.intro ?_ ?_ <;> split <;> omega)) | omega)⟩)
            · try simp (disch := omega) only [w32_of, w64_of, w8_of, decide_eq_true_eq, decide_eq_false_iff_not, Bool.not_eq_true] at c64
              have c69 := ii_kR_planMany hσ_28 32
              have c70 := FR_at flσ_28 (c := kR_planMany) (by decide) 32
              exact wp_some (x_inr (x_inr ⟨hσ_28, frσ_28, nfσ_28, (by (try dsimp only) <;> first | assumption | omega | ((try simp (disch := omega) only [w32_of, w64_of, w8_of]) <;> first | assumption | omega | (split <;> omega) | (refine And.intro ?_ ?_ <;> split <;> omega)) | omega), (by (try dsimp only) <;> first | assumption | omega | ((try simp (disch := omega) only [w32_of, w64_of, w8_of]) <;> first | assumption | omega | (split <;> omega) | (refine And.intro ?_ ?_ <;> split <;> omega)) | omega), (fun q => (by cases q)), (fun q => (by cases q)), (fun q => (by cases q)), (by (try dsimp only) <;> (first | exact gn | (intro i hi; rw [FR_at flσ_15 (c := kR_plan) (by decide)]; exact gn i hi) | (intro i hi; rw [FR_at flσ_22 (c := kR_plan) (by decide)]; exact gn i hi) | (intro i hi; rw [FR_at flσ_33 (c := kR_plan) (by decide)]; exact gn i hi) | (intro i hi; rw [FR_at flσ_28 (c := kR_plan) (by decide), gt3 i (by omega), FR_at flσ_24 (c := kR_plan) (by decide)]; exact gn i hi)))⟩))
        · try simp (disch := omega) only [w32_of, w64_of, w8_of, decide_eq_true_eq, decide_eq_false_iff_not, Bool.not_eq_true, fR_there] at c26
          refine wp_bd (v_wrong (σ := σ_2) (kind_0 := 3) (where_0 := (σ_2 kR_at 0)) hσ_2 (by (try dsimp only) <;> first | assumption | omega | ((try simp (disch := omega) only [w32_of, w64_of, w8_of]) <;> first | assumption | omega | (split <;> omega) | (refine And.intro ?_ ?_ <;> split <;> omega)) | omega) (by (try dsimp only) <;> first | assumption | omega | ((try simp (disch := omega) only [w32_of, w64_of, w8_of]) <;> first | assumption | omega | (split <;> omega) | (refine And.intro ?_ ?_ <;> split <;> omega)) | omega)) ?_
          rintro ⟨x_34, σ_33⟩ - y72
          try dsimp only at y72 ⊢
          obtain ⟨hσ_33, flσ_33, g71⟩ := y72
          have frσ_33 : FR [kR_at, kR_faultKind, kR_faultPlace, kR_plan, kR_planMany, kR_pointMany, kR_value, kR_xs, kR_ys] σ σ_33 := FR_tr frσ_2 flσ_33 (by decide) (by decide)
          have nfσ_33 : NF σ σ_33 := NF_fr nfσ_2 flσ_33 (by decide)
          try simp (disch := omega) only [w32_of, w64_of, w8_of] at g71
          have c73 := ii_kR_at hσ_33 0
          have c74 := FR_at flσ_33 (c := kR_at) (by decide) 0
          have c75 := ii_kR_planMany hσ_33 32
          have c76 := FR_at flσ_33 (c := kR_planMany) (by decide) 32
          have c77 := ii_kR_pointMany hσ_33 32
          have c78 := FR_at flσ_33 (c := kR_pointMany) (by decide) 32
          have c79 := ii_kR_pointMany hσ_2 32
          exact wp_some (x_inr (x_inr ⟨hσ_33, frσ_33, nfσ_33, (by (try dsimp only) <;> first | assumption | omega | ((try simp (disch := omega) only [w32_of, w64_of, w8_of]) <;> first | assumption | omega | (split <;> omega) | (refine And.intro ?_ ?_ <;> split <;> omega)) | omega), (by (try dsimp only) <;> first | assumption | omega | ((try simp (disch := omega) only [w32_of, w64_of, w8_of]) <;> first | assumption | omega | (split <;> omega) | (refine And.intro ?_ ?_ <;> split <;> omega)) | omega), (fun q => absurd (q.symm.trans g71) (by decide)), (fun q => absurd (q.symm.trans g71) (by decide)), (fun q => absurd (q.symm.trans g71) (by decide)), (by (try dsimp only) <;> (first | exact gn | (intro i hi; rw [FR_at flσ_15 (c := kR_plan) (by decide)]; exact gn i hi) | (intro i hi; rw [FR_at flσ_22 (c := kR_plan) (by decide)]; exact gn i hi) | (intro i hi; rw [FR_at flσ_33 (c := kR_plan) (by decide)]; exact gn i hi) | (intro i hi; rw [FR_at flσ_28 (c := kR_plan) (by decide), gt3 i (by omega), FR_at flσ_24 (c := kR_plan) (by decide)]; exact gn i hi)))⟩))
    · try simp (disch := omega) only [w32_of, w64_of, w8_of, decide_eq_true_eq, decide_eq_false_iff_not, Bool.not_eq_true] at c10
      have c80 := ii_kR_at hσ_2 0
      have c81 := ii_kR_planMany hσ_2 32
      have c82 := ii_kR_pointMany hσ_2 32
      exact wp_some (x_inr (x_inl ⟨(by (try dsimp only) <;> first | assumption | omega | ((try simp (disch := omega) only [w32_of, w64_of, w8_of]) <;> first | assumption | omega | (split <;> omega) | (refine And.intro ?_ ?_ <;> split <;> omega)) | omega), hσ_2, frσ_2, nfσ_2, (by (try dsimp only) <;> first | assumption | omega | ((try simp (disch := omega) only [w32_of, w64_of, w8_of]) <;> first | assumption | omega | (split <;> omega) | (refine And.intro ?_ ?_ <;> split <;> omega)) | omega), (by (try dsimp only) <;> first | assumption | omega | ((try simp (disch := omega) only [w32_of, w64_of, w8_of]) <;> first | assumption | omega | (split <;> omega) | (refine And.intro ?_ ?_ <;> split <;> omega)) | omega), (by (try dsimp only) <;> first | assumption | omega | ((try simp (disch := omega) only [w32_of, w64_of, w8_of]) <;> first | assumption | omega | (split <;> omega) | (refine And.intro ?_ ?_ <;> split <;> omega)) | omega), (by (try dsimp only) <;> (exact fun k a b => gk k a (by omega))), (by (try dsimp only) <;> (rw [show count_0 = k_1 by omega]; exact gh)), (by (try dsimp only) <;> (exact gn))⟩))
  rintro ⟨k_36, σ_37⟩ y87
  try dsimp only at y87 ⊢
  obtain ⟨g83, hσ_37, frσ_37, nfσ_37, g84, g85, g86, gk, gh, gn⟩ := y87
  have c88 := ii_kR_at hσ_37 0
  have c89 := ii_kR_planMany hσ_37 32
  have c90 := ii_kR_planMany hσ 32
  have c91 := ii_kR_pointMany hσ_37 32
  have c92 := ii_kR_pointMany hσ 32
  exact wp_some ⟨hσ_37, frσ_37, nfσ_37, (by (try dsimp only) <;> first | assumption | omega | ((try simp (disch := omega) only [w32_of, w64_of, w8_of]) <;> first | assumption | omega | (split <;> omega) | (refine And.intro ?_ ?_ <;> split <;> omega)) | omega), (by (try dsimp only) <;> first | assumption | omega | ((try simp (disch := omega) only [w32_of, w64_of, w8_of]) <;> first | assumption | omega | (split <;> omega) | (refine And.intro ?_ ?_ <;> split <;> omega)) | omega), (by intro q9; (try dsimp only) <;> first | assumption | omega | ((try simp (disch := omega) only [w32_of, w64_of, w8_of]) <;> first | assumption | omega | (split <;> omega) | (refine And.intro ?_ ?_ <;> split <;> omega)) | omega), (by (try dsimp only) <;> (exact fun _ => gk)), (by (try dsimp only) <;> (exact fun _ => gh)), (by (try dsimp only) <;> (first | exact gn | (intro i hi; rw [FR_at flσ_15 (c := kR_plan) (by decide)]; exact gn i hi) | (intro i hi; rw [FR_at flσ_22 (c := kR_plan) (by decide)]; exact gn i hi) | (intro i hi; rw [FR_at flσ_33 (c := kR_plan) (by decide)]; exact gn i hi) | (intro i hi; rw [FR_at flσ_28 (c := kR_plan) (by decide), gt3 i (by omega), FR_at flσ_24 (c := kR_plan) (by decide)]; exact gn i hi)))⟩
theorem v_pointOfBytes {σ : SG} {number_0 : Int} (hσ : II σ) (qnumber_0 : (-1) ≤ number_0 ∧ number_0 ≤ 2047) (w0 : σ kR_at 0 ≤ σ kR_size 0) (w1 : 0 ≤ number_0 ∧ number_0 ≤ 2047) (w2 : σ kR_plan (65536 + number_0) = 0) : wp_ (fR_pointOfBytes σ number_0) (fun zz_ => II zz_.2 ∧ FR [kR_at, kR_faultKind, kR_faultPlace, kR_plan, kR_pointMany, kR_value, kR_xs, kR_ys] σ zz_.2 ∧ NF σ zz_.2 ∧ (σ kR_at 0 ≤ zz_.2 kR_at 0) ∧ (zz_.2 kR_at 0 ≤ σ kR_size 0) ∧ ((zz_.1 = true) → (zz_.2 kR_plan (65536 + number_0) = zz_.2 kR_pointMany 32 - σ kR_pointMany 32 ∧ 0 ≤ zz_.2 kR_plan (65536 + number_0) ∧ zz_.2 kR_plan (65536 + number_0) ≤ 1)) ∧ (∀ i, i ≠ 65536 + number_0 → zz_.2 kR_plan i = σ kR_plan i)) := by
  unfold fR_pointOfBytes
  have c1 := ii_kR_at hσ 0
  have c2 := ii_kR_size hσ 0
  refine wp_if (fun c3 => ?_) (fun c3 => ?_)
  · try simp (disch := omega) only [w32_of, w64_of, w8_of, decide_eq_true_eq, decide_eq_false_iff_not, Bool.not_eq_true, fR_there] at c3
    refine wp_bd (v_whole (σ := σ) (from_0 := (σ kR_at 0)) (n_0 := 8) hσ (by (try dsimp only) <;> first | assumption | omega | ((try simp (disch := omega) only [w32_of, w64_of, w8_of]) <;> first | assumption | omega | (split <;> omega) | (refine And.intro ?_ ?_ <;> split <;> omega)) | omega) (by (try dsimp only) <;> first | assumption | omega | ((try simp (disch := omega) only [w32_of, w64_of, w8_of]) <;> first | assumption | omega | (split <;> omega) | (refine And.intro ?_ ?_ <;> split <;> omega)) | omega) (by (try dsimp only) <;> first | assumption | omega | ((try simp (disch := omega) only [w32_of, w64_of, w8_of]) <;> first | assumption | omega | (split <;> omega) | (refine And.intro ?_ ?_ <;> split <;> omega)) | omega) (by (try dsimp only) <;> first | assumption | omega | ((try simp (disch := omega) only [w32_of, w64_of, w8_of]) <;> first | assumption | omega | (split <;> omega) | (refine And.intro ?_ ?_ <;> split <;> omega)) | omega)) ?_
    rintro x_19 - g4
    try simp (disch := omega) only [w32_of, w64_of, w8_of] at g4
    refine wp_if (fun c5 => ?_) (fun c5 => ?_)
    · try simp (disch := omega) only [w32_of, w64_of, w8_of, decide_eq_true_eq, decide_eq_false_iff_not, Bool.not_eq_true, fR_isNoNumber] at c5
      refine wp_bd (v_whole (σ := σ) (from_0 := ((σ kR_at 0) + 8)) (n_0 := 8) hσ (by (try dsimp only) <;> first | assumption | omega | ((try simp (disch := omega) only [w32_of, w64_of, w8_of]) <;> first | assumption | omega | (split <;> omega) | (refine And.intro ?_ ?_ <;> split <;> omega)) | omega) (by (try dsimp only) <;> first | assumption | omega | ((try simp (disch := omega) only [w32_of, w64_of, w8_of]) <;> first | assumption | omega | (split <;> omega) | (refine And.intro ?_ ?_ <;> split <;> omega)) | omega) (by (try dsimp only) <;> first | assumption | omega | ((try simp (disch := omega) only [w32_of, w64_of, w8_of]) <;> first | assumption | omega | (split <;> omega) | (refine And.intro ?_ ?_ <;> split <;> omega)) | omega) (by (try dsimp only) <;> first | assumption | omega | ((try simp (disch := omega) only [w32_of, w64_of, w8_of]) <;> first | assumption | omega | (split <;> omega) | (refine And.intro ?_ ?_ <;> split <;> omega)) | omega)) ?_
      rintro x_22 - g6
      try simp (disch := omega) only [w32_of, w64_of, w8_of] at g6
      refine wp_if (fun c7 => ?_) (fun c7 => ?_)
      · try simp (disch := omega) only [w32_of, w64_of, w8_of, decide_eq_true_eq, decide_eq_false_iff_not, Bool.not_eq_true, fR_isNoNumber] at c7
        refine wp_wfI hσ b_kR_at (by (try dsimp only) <;> first | assumption | omega | ((try simp (disch := omega) only [w32_of, w64_of, w8_of]) <;> first | assumption | omega | (split <;> omega) | (refine And.intro ?_ ?_ <;> split <;> omega)) | omega) (fun σ_24 hσ_24 eσ_24 => ?_)
        try simp (disch := omega) only [w32_of, w64_of, w8_of] at eσ_24
        have flσ_24 := FR_sg eσ_24
        have frσ_24 : FR [kR_at, kR_faultKind, kR_faultPlace, kR_plan, kR_pointMany, kR_value, kR_xs, kR_ys] σ σ_24 := FR_le flσ_24 (by decide)
        have nfσ_24 : NF σ σ_24 := NF_fr (NF_refl _) flσ_24 (by decide)
        have c8 := ii_kR_at hσ_24 0
        have c9 := sg_val eσ_24
        have c10 := FR_at flσ_24 (c := kR_plan) (by decide) (65536 + number_0)
        have c11 := ii_kR_pointMany hσ_24 32
        have c12 := FR_at flσ_24 (c := kR_pointMany) (by decide) 32
        have c13 := ii_kR_pointMany hσ 32
        exact wp_some ⟨hσ_24, frσ_24, nfσ_24, (by (try dsimp only) <;> first | assumption | omega | ((try simp (disch := omega) only [w32_of, w64_of, w8_of]) <;> first | assumption | omega | (split <;> omega) | (refine And.intro ?_ ?_ <;> split <;> omega)) | omega), (by (try dsimp only) <;> first | assumption | omega | ((try simp (disch := omega) only [w32_of, w64_of, w8_of]) <;> first | assumption | omega | (split <;> omega) | (refine And.intro ?_ ?_ <;> split <;> omega)) | omega), (by intro q9; (try dsimp only) <;> first | assumption | omega | ((try simp (disch := omega) only [w32_of, w64_of, w8_of]) <;> first | assumption | omega | (split <;> omega) | (refine And.intro ?_ ?_ <;> split <;> omega)) | omega), (by (try dsimp only) <;> (first | exact fun i _ => FR_at flσ_24 (c := kR_plan) (by decide) i | exact fun i hi => (FR_at flσ_28 (c := kR_plan) (by decide) i).trans (gm2 i hi) | exact fun i hi => (FR_at flσ_33 (c := kR_plan) (by decide) i).trans (gm2 i hi) | exact fun i hi => (FR_at flσ_38 (c := kR_plan) (by decide) i).trans (gm2 i hi)))⟩
      · try simp (disch := omega) only [w32_of, w64_of, w8_of, decide_eq_true_eq, decide_eq_false_iff_not, Bool.not_eq_true, fR_isNoNumber] at c7
        refine wp_bd (v_more (σ := σ) (number_0 := number_0) hσ (by (try dsimp only) <;> first | assumption | omega | ((try simp (disch := omega) only [w32_of, w64_of, w8_of]) <;> first | assumption | omega | (split <;> omega) | (refine And.intro ?_ ?_ <;> split <;> omega)) | omega) (by (try dsimp only) <;> first | assumption | omega | ((try simp (disch := omega) only [w32_of, w64_of, w8_of]) <;> first | assumption | omega | (split <;> omega) | (refine And.intro ?_ ?_ <;> split <;> omega)) | omega)) ?_
        rintro σ_26 - ⟨hσ_26, flσ_26, ngσ_26, gm1, gm2⟩
        have frσ_26 : FR [kR_at, kR_faultKind, kR_faultPlace, kR_plan, kR_pointMany, kR_value, kR_xs, kR_ys] σ σ_26 := FR_le flσ_26 (by decide)
        have nfσ_26 : NF σ σ_26 := NF_tr (NF_refl _) ngσ_26
        try simp (disch := omega) only [w32_of, w64_of, w8_of] at gm1
        try simp (disch := omega) only [w32_of, w64_of, w8_of] at gm2
        have c14 := ii_kR_at hσ_26 0
        have c15 := FR_at flσ_26 (c := kR_at) (by decide) 0
        have c16 := ii_kR_size hσ_26 0
        have c17 := FR_at flσ_26 (c := kR_size) (by decide) 0
        refine wp_bd (v_coordinateOfBytes (σ := σ_26) hσ_26 (by (try dsimp only) <;> first | assumption | omega | ((try simp (disch := omega) only [w32_of, w64_of, w8_of]) <;> first | assumption | omega | (split <;> omega) | (refine And.intro ?_ ?_ <;> split <;> omega)) | omega)) ?_
        rintro ⟨x_29, σ_28⟩ - y21
        try dsimp only at y21 ⊢
        obtain ⟨hσ_28, flσ_28, ngσ_28, g18, g19, g20⟩ := y21
        have frσ_28 : FR [kR_at, kR_faultKind, kR_faultPlace, kR_plan, kR_pointMany, kR_value, kR_xs, kR_ys] σ σ_28 := FR_tr frσ_26 flσ_28 (by decide) (by decide)
        have nfσ_28 : NF σ σ_28 := NF_tr nfσ_26 ngσ_28
        have c22 := ii_kR_at hσ_28 0
        try simp (disch := omega) only [w32_of, w64_of, w8_of] at g18
        try simp (disch := omega) only [w32_of, w64_of, w8_of] at g19
        have c23 := ii_kR_pointMany hσ_28 32
        have c24 := ii_kR_pointMany hσ_26 32
        have c25 := FR_at flσ_26 (c := kR_pointMany) (by decide) 32
        have c26 := ii_kR_pointMany hσ 32
        try simp (disch := omega) only [w32_of, w64_of, w8_of] at g20
        have c27 := FR_at flσ_28 (c := kR_plan) (by decide) (65536 + number_0)
        exact wp_some ⟨hσ_28, frσ_28, nfσ_28, (by (try dsimp only) <;> first | assumption | omega | ((try simp (disch := omega) only [w32_of, w64_of, w8_of]) <;> first | assumption | omega | (split <;> omega) | (refine And.intro ?_ ?_ <;> split <;> omega)) | omega), (by (try dsimp only) <;> first | assumption | omega | ((try simp (disch := omega) only [w32_of, w64_of, w8_of]) <;> first | assumption | omega | (split <;> omega) | (refine And.intro ?_ ?_ <;> split <;> omega)) | omega), (by intro q9; have k9_0 := g20 q9; (try dsimp only) <;> first | assumption | omega | ((try simp (disch := omega) only [w32_of, w64_of, w8_of]) <;> first | assumption | omega | (split <;> omega) | (refine And.intro ?_ ?_ <;> split <;> omega)) | omega), (by (try dsimp only) <;> (first | exact fun i _ => FR_at flσ_24 (c := kR_plan) (by decide) i | exact fun i hi => (FR_at flσ_28 (c := kR_plan) (by decide) i).trans (gm2 i hi) | exact fun i hi => (FR_at flσ_33 (c := kR_plan) (by decide) i).trans (gm2 i hi) | exact fun i hi => (FR_at flσ_38 (c := kR_plan) (by decide) i).trans (gm2 i hi)))⟩
    · try simp (disch := omega) only [w32_of, w64_of, w8_of, decide_eq_true_eq, decide_eq_false_iff_not, Bool.not_eq_true, fR_isNoNumber] at c5
      refine wp_bd (v_more (σ := σ) (number_0 := number_0) hσ (by (try dsimp only) <;> first | assumption | omega | ((try simp (disch := omega) only [w32_of, w64_of, w8_of]) <;> first | assumption | omega | (split <;> omega) | (refine And.intro ?_ ?_ <;> split <;> omega)) | omega) (by (try dsimp only) <;> first | assumption | omega | ((try simp (disch := omega) only [w32_of, w64_of, w8_of]) <;> first | assumption | omega | (split <;> omega) | (refine And.intro ?_ ?_ <;> split <;> omega)) | omega)) ?_
      rintro σ_31 - ⟨hσ_31, flσ_31, ngσ_31, gm1, gm2⟩
      have frσ_31 : FR [kR_at, kR_faultKind, kR_faultPlace, kR_plan, kR_pointMany, kR_value, kR_xs, kR_ys] σ σ_31 := FR_le flσ_31 (by decide)
      have nfσ_31 : NF σ σ_31 := NF_tr (NF_refl _) ngσ_31
      try simp (disch := omega) only [w32_of, w64_of, w8_of] at gm1
      try simp (disch := omega) only [w32_of, w64_of, w8_of] at gm2
      have c28 := ii_kR_at hσ_31 0
      have c29 := FR_at flσ_31 (c := kR_at) (by decide) 0
      have c30 := ii_kR_size hσ_31 0
      have c31 := FR_at flσ_31 (c := kR_size) (by decide) 0
      refine wp_bd (v_coordinateOfBytes (σ := σ_31) hσ_31 (by (try dsimp only) <;> first | assumption | omega | ((try simp (disch := omega) only [w32_of, w64_of, w8_of]) <;> first | assumption | omega | (split <;> omega) | (refine And.intro ?_ ?_ <;> split <;> omega)) | omega)) ?_
      rintro ⟨x_34, σ_33⟩ - y35
      try dsimp only at y35 ⊢
      obtain ⟨hσ_33, flσ_33, ngσ_33, g32, g33, g34⟩ := y35
      have frσ_33 : FR [kR_at, kR_faultKind, kR_faultPlace, kR_plan, kR_pointMany, kR_value, kR_xs, kR_ys] σ σ_33 := FR_tr frσ_31 flσ_33 (by decide) (by decide)
      have nfσ_33 : NF σ σ_33 := NF_tr nfσ_31 ngσ_33
      have c36 := ii_kR_at hσ_33 0
      try simp (disch := omega) only [w32_of, w64_of, w8_of] at g32
      try simp (disch := omega) only [w32_of, w64_of, w8_of] at g33
      have c37 := ii_kR_pointMany hσ_33 32
      have c38 := ii_kR_pointMany hσ_31 32
      have c39 := FR_at flσ_31 (c := kR_pointMany) (by decide) 32
      have c40 := ii_kR_pointMany hσ 32
      try simp (disch := omega) only [w32_of, w64_of, w8_of] at g34
      have c41 := FR_at flσ_33 (c := kR_plan) (by decide) (65536 + number_0)
      exact wp_some ⟨hσ_33, frσ_33, nfσ_33, (by (try dsimp only) <;> first | assumption | omega | ((try simp (disch := omega) only [w32_of, w64_of, w8_of]) <;> first | assumption | omega | (split <;> omega) | (refine And.intro ?_ ?_ <;> split <;> omega)) | omega), (by (try dsimp only) <;> first | assumption | omega | ((try simp (disch := omega) only [w32_of, w64_of, w8_of]) <;> first | assumption | omega | (split <;> omega) | (refine And.intro ?_ ?_ <;> split <;> omega)) | omega), (by intro q9; have k9_0 := g34 q9; (try dsimp only) <;> first | assumption | omega | ((try simp (disch := omega) only [w32_of, w64_of, w8_of]) <;> first | assumption | omega | (split <;> omega) | (refine And.intro ?_ ?_ <;> split <;> omega)) | omega), (by (try dsimp only) <;> (first | exact fun i _ => FR_at flσ_24 (c := kR_plan) (by decide) i | exact fun i hi => (FR_at flσ_28 (c := kR_plan) (by decide) i).trans (gm2 i hi) | exact fun i hi => (FR_at flσ_33 (c := kR_plan) (by decide) i).trans (gm2 i hi) | exact fun i hi => (FR_at flσ_38 (c := kR_plan) (by decide) i).trans (gm2 i hi)))⟩
  · try simp (disch := omega) only [w32_of, w64_of, w8_of, decide_eq_true_eq, decide_eq_false_iff_not, Bool.not_eq_true, fR_there] at c3
    refine wp_bd (v_more (σ := σ) (number_0 := number_0) hσ (by (try dsimp only) <;> first | assumption | omega | ((try simp (disch := omega) only [w32_of, w64_of, w8_of]) <;> first | assumption | omega | (split <;> omega) | (refine And.intro ?_ ?_ <;> split <;> omega)) | omega) (by (try dsimp only) <;> first | assumption | omega | ((try simp (disch := omega) only [w32_of, w64_of, w8_of]) <;> first | assumption | omega | (split <;> omega) | (refine And.intro ?_ ?_ <;> split <;> omega)) | omega)) ?_
    rintro σ_36 - ⟨hσ_36, flσ_36, ngσ_36, gm1, gm2⟩
    have frσ_36 : FR [kR_at, kR_faultKind, kR_faultPlace, kR_plan, kR_pointMany, kR_value, kR_xs, kR_ys] σ σ_36 := FR_le flσ_36 (by decide)
    have nfσ_36 : NF σ σ_36 := NF_tr (NF_refl _) ngσ_36
    try simp (disch := omega) only [w32_of, w64_of, w8_of] at gm1
    try simp (disch := omega) only [w32_of, w64_of, w8_of] at gm2
    have c42 := ii_kR_at hσ_36 0
    have c43 := FR_at flσ_36 (c := kR_at) (by decide) 0
    have c44 := ii_kR_size hσ_36 0
    have c45 := FR_at flσ_36 (c := kR_size) (by decide) 0
    refine wp_bd (v_coordinateOfBytes (σ := σ_36) hσ_36 (by (try dsimp only) <;> first | assumption | omega | ((try simp (disch := omega) only [w32_of, w64_of, w8_of]) <;> first | assumption | omega | (split <;> omega) | (refine And.intro ?_ ?_ <;> split <;> omega)) | omega)) ?_
    rintro ⟨x_39, σ_38⟩ - y49
    try dsimp only at y49 ⊢
    obtain ⟨hσ_38, flσ_38, ngσ_38, g46, g47, g48⟩ := y49
    have frσ_38 : FR [kR_at, kR_faultKind, kR_faultPlace, kR_plan, kR_pointMany, kR_value, kR_xs, kR_ys] σ σ_38 := FR_tr frσ_36 flσ_38 (by decide) (by decide)
    have nfσ_38 : NF σ σ_38 := NF_tr nfσ_36 ngσ_38
    have c50 := ii_kR_at hσ_38 0
    try simp (disch := omega) only [w32_of, w64_of, w8_of] at g46
    try simp (disch := omega) only [w32_of, w64_of, w8_of] at g47
    have c51 := ii_kR_pointMany hσ_38 32
    have c52 := ii_kR_pointMany hσ_36 32
    have c53 := FR_at flσ_36 (c := kR_pointMany) (by decide) 32
    have c54 := ii_kR_pointMany hσ 32
    try simp (disch := omega) only [w32_of, w64_of, w8_of] at g48
    have c55 := FR_at flσ_38 (c := kR_plan) (by decide) (65536 + number_0)
    exact wp_some ⟨hσ_38, frσ_38, nfσ_38, (by (try dsimp only) <;> first | assumption | omega | ((try simp (disch := omega) only [w32_of, w64_of, w8_of]) <;> first | assumption | omega | (split <;> omega) | (refine And.intro ?_ ?_ <;> split <;> omega)) | omega), (by (try dsimp only) <;> first | assumption | omega | ((try simp (disch := omega) only [w32_of, w64_of, w8_of]) <;> first | assumption | omega | (split <;> omega) | (refine And.intro ?_ ?_ <;> split <;> omega)) | omega), (by intro q9; have k9_0 := g48 q9; (try dsimp only) <;> first | assumption | omega | ((try simp (disch := omega) only [w32_of, w64_of, w8_of]) <;> first | assumption | omega | (split <;> omega) | (refine And.intro ?_ ?_ <;> split <;> omega)) | omega), (by (try dsimp only) <;> (first | exact fun i _ => FR_at flσ_24 (c := kR_plan) (by decide) i | exact fun i hi => (FR_at flσ_28 (c := kR_plan) (by decide) i).trans (gm2 i hi) | exact fun i hi => (FR_at flσ_33 (c := kR_plan) (by decide) i).trans (gm2 i hi) | exact fun i hi => (FR_at flσ_38 (c := kR_plan) (by decide) i).trans (gm2 i hi)))⟩
theorem v_partsOfBytes {σ : SG} {kind_0 : Int} {count_0 : Int} (hσ : II σ) (qkind_0 : 4 ≤ kind_0 ∧ kind_0 ≤ 7) (qcount_0 : (-9223372036854775808) ≤ count_0 ∧ count_0 ≤ 9223372036854775807) (w0 : σ kR_levels 0 ≤ 55) (w1 : 4 ≤ kind_0 ∧ kind_0 ≤ 7) (w2 : kind_0 = 7 → σ kR_open 0 < 50) (w3 : 0 ≤ count_0 ∧ count_0 < 4294967296) : wp_ (fR_partsOfBytes σ kind_0 count_0) (fun zz_ => II zz_.2 ∧ FR [kR_left, kR_levels, kR_open, kR_partKind] σ zz_.2 ∧ NF σ zz_.2 ∧ (zz_.1 = true) ∧ (zz_.2 kR_levels 0 = σ kR_levels 0 + 1) ∧ (∀ j, j ≠ σ kR_levels 0 → zz_.2 kR_left j = σ kR_left j ∧ zz_.2 kR_partKind j = σ kR_partKind j) ∧ (zz_.2 kR_left (σ kR_levels 0) = count_0) ∧ ((kind_0 = 7 ∧ zz_.2 kR_partKind (σ kR_levels 0) = 0 ∧ zz_.2 kR_open 0 = σ kR_open 0 + 1) ∨ (kind_0 ≠ 7 ∧ zz_.2 kR_partKind (σ kR_levels 0) = kind_0 - 3 ∧ zz_.2 kR_open 0 = σ kR_open 0))) := by
  unfold fR_partsOfBytes
  have c1 := ii_kR_levels hσ 0
  have c2 := ii_kR_open hσ 0
  have c3 := w32_rng (σ kR_levels 0)
  refine wp_waI hσ b_kR_left (by (try dsimp only) <;> first | assumption | omega | ((try simp (disch := omega) only [w32_of, w64_of, w8_of]) <;> first | assumption | omega | (split <;> omega) | (refine And.intro ?_ ?_ <;> split <;> omega)) | omega) (by (try dsimp only) <;> first | assumption | omega | ((try simp (disch := omega) only [w32_of, w64_of, w8_of]) <;> first | assumption | omega | (split <;> omega) | (refine And.intro ?_ ?_ <;> split <;> omega)) | omega) (by (try dsimp only) <;> first | assumption | omega | ((try simp (disch := omega) only [w32_of, w64_of, w8_of]) <;> first | assumption | omega | (split <;> omega) | (refine And.intro ?_ ?_ <;> split <;> omega)) | omega) (fun σ_1 hσ_1 eσ_1 => ?_)
  try simp (disch := omega) only [w32_of, w64_of, w8_of] at eσ_1
  have flσ_1 := FR_sg eσ_1
  have frσ_1 : FR [kR_left, kR_levels, kR_open, kR_partKind] σ σ_1 := FR_le flσ_1 (by decide)
  have nfσ_1 : NF σ σ_1 := NF_fr (NF_refl _) flσ_1 (by decide)
  have c4 := w32_rng kind_0
  have c5 := ii_kR_levels hσ_1 0
  have c6 := FR_at flσ_1 (c := kR_levels) (by decide) 0
  have c7 := w32_rng (σ_1 kR_levels 0)
  refine wp_waI hσ_1 b_kR_partKind (by (try dsimp only) <;> first | assumption | omega | ((try simp (disch := omega) only [w32_of, w64_of, w8_of]) <;> first | assumption | omega | (split <;> omega) | (refine And.intro ?_ ?_ <;> split <;> omega)) | omega) (by (try dsimp only) <;> first | assumption | omega | ((try simp (disch := omega) only [w32_of, w64_of, w8_of]) <;> first | assumption | omega | (split <;> omega) | (refine And.intro ?_ ?_ <;> split <;> omega)) | omega) (by (try dsimp only) <;> first | assumption | omega | ((try simp (disch := omega) only [w32_of, w64_of, w8_of]) <;> first | assumption | omega | (split <;> omega) | (refine And.intro ?_ ?_ <;> split <;> omega)) | omega) (fun σ_4 hσ_4 eσ_4 => ?_)
  try simp (disch := omega) only [w32_of, w64_of, w8_of] at eσ_4
  have flσ_4 := FR_sg eσ_4
  have frσ_4 : FR [kR_left, kR_levels, kR_open, kR_partKind] σ σ_4 := FR_tr frσ_1 flσ_4 (by decide) (by decide)
  have nfσ_4 : NF σ σ_4 := NF_fr nfσ_1 flσ_4 (by decide)
  have l1 : σ_1 kR_levels 0 = σ kR_levels 0 := by rw [eσ_1, sg_nc (by decide)]
  have l4 : σ_4 kR_levels 0 = σ kR_levels 0 := by rw [eσ_4, sg_nc (by decide)]; exact l1
  rw [l1] at eσ_4
  have c8 := ii_kR_levels hσ_4 0
  have c9 := FR_at flσ_4 (c := kR_levels) (by decide) 0
  refine wp_wfI hσ_4 b_kR_levels (by (try dsimp only) <;> first | assumption | omega | ((try simp (disch := omega) only [w32_of, w64_of, w8_of]) <;> first | assumption | omega | (split <;> omega) | (refine And.intro ?_ ?_ <;> split <;> omega)) | omega) (fun σ_6 hσ_6 eσ_6 => ?_)
  try simp (disch := omega) only [w32_of, w64_of, w8_of] at eσ_6
  have flσ_6 := FR_sg eσ_6
  have frσ_6 : FR [kR_left, kR_levels, kR_open, kR_partKind] σ σ_6 := FR_tr frσ_4 flσ_6 (by decide) (by decide)
  have nfσ_6 : NF σ σ_6 := NF_fr nfσ_4 flσ_6 (by decide)
  have o6 : σ_6 kR_open 0 = σ kR_open 0 := by rw [eσ_6, sg_nc (by decide), eσ_4, sg_nc (by decide), eσ_1, sg_nc (by decide)]
  have c10 := ii_kR_open hσ_6 0
  have c11 := FR_at flσ_6 (c := kR_open) (by decide) 0
  have c12 := ii_kR_open hσ_4 0
  have c13 := FR_at flσ_4 (c := kR_open) (by decide) 0
  have c14 := ii_kR_open hσ_1 0
  have c15 := FR_at flσ_1 (c := kR_open) (by decide) 0
  refine wp_wfI hσ_6 b_kR_open (by (try dsimp only) <;> first | assumption | omega | ((try simp (disch := omega) only [w32_of, w64_of, w8_of]) <;> first | assumption | omega | (split <;> omega) | (refine And.intro ?_ ?_ <;> split <;> omega)) | omega) (fun σ_8 hσ_8 eσ_8 => ?_)
  try simp (disch := omega) only [w32_of, w64_of, w8_of] at eσ_8
  have flσ_8 := FR_sg eσ_8
  have frσ_8 : FR [kR_left, kR_levels, kR_open, kR_partKind] σ σ_8 := FR_tr frσ_6 flσ_8 (by decide) (by decide)
  have nfσ_8 : NF σ σ_8 := NF_fr nfσ_6 flσ_8 (by decide)
  have pb1 : ∀ j, j ≠ σ kR_levels 0 → σ_8 kR_left j = σ kR_left j ∧ σ_8 kR_partKind j = σ kR_partKind j := fun j hj => ⟨by rw [eσ_8, sg_nc (by decide), eσ_6, sg_nc (by decide), eσ_4, sg_nc (by decide), eσ_1, sg_ni hj], by rw [eσ_8, sg_nc (by decide), eσ_6, sg_nc (by decide), eσ_4, sg_ni hj, eσ_1, sg_nc (by decide)]⟩
  have pb2 : σ_8 kR_left (σ kR_levels 0) = count_0 := by rw [eσ_8, sg_nc (by decide), eσ_6, sg_nc (by decide), eσ_4, sg_nc (by decide), eσ_1, sg_at]
  have pk : σ_8 kR_partKind (σ kR_levels 0) = if kind_0 = 7 then 0 else kind_0 - 3 := by rw [eσ_8, sg_nc (by decide), eσ_6, sg_nc (by decide), eσ_4, sg_at]
  have pp : σ_8 kR_open 0 = if kind_0 = 7 then σ kR_open 0 + 1 else σ kR_open 0 := by rw [sg_val eσ_8, o6]
  have pb3 : (kind_0 = 7 ∧ σ_8 kR_partKind (σ kR_levels 0) = 0 ∧ σ_8 kR_open 0 = σ kR_open 0 + 1) ∨ (kind_0 ≠ 7 ∧ σ_8 kR_partKind (σ kR_levels 0) = kind_0 - 3 ∧ σ_8 kR_open 0 = σ kR_open 0) := by
    rw [pk, pp]
    by_cases q : kind_0 = 7
    · rw [if_pos q, if_pos q]; exact Or.inl ⟨q, rfl, rfl⟩
    · rw [if_neg q, if_neg q]; exact Or.inr ⟨q, rfl, rfl⟩
  have c16 := ii_kR_levels hσ_8 0
  have c17 := FR_at flσ_8 (c := kR_levels) (by decide) 0
  have c18 := ii_kR_levels hσ_6 0
  have c19 := sg_val eσ_6
  have c20 := ii_kR_left hσ_8 (σ kR_levels 0)
  have c21 := FR_at flσ_8 (c := kR_left) (by decide) (σ kR_levels 0)
  have c22 := ii_kR_left hσ_6 (σ kR_levels 0)
  have c23 := FR_at flσ_6 (c := kR_left) (by decide) (σ kR_levels 0)
  have c24 := ii_kR_left hσ_4 (σ kR_levels 0)
  have c25 := FR_at flσ_4 (c := kR_left) (by decide) (σ kR_levels 0)
  have c26 := ii_kR_left hσ_1 (σ kR_levels 0)
  have c27 := sg_val eσ_1
  have c28 := ii_kR_partKind hσ_8 (σ kR_levels 0)
  have c29 := FR_at flσ_8 (c := kR_partKind) (by decide) (σ kR_levels 0)
  have c30 := ii_kR_partKind hσ_6 (σ kR_levels 0)
  have c31 := FR_at flσ_6 (c := kR_partKind) (by decide) (σ kR_levels 0)
  have c32 := ii_kR_partKind hσ_4 (σ kR_levels 0)
  have c33 := ii_kR_open hσ_8 0
  have c34 := sg_val eσ_8
  exact wp_some ⟨hσ_8, frσ_8, nfσ_8, (by (try dsimp only) <;> first | assumption | omega | ((try simp (disch := omega) only [w32_of, w64_of, w8_of]) <;> first | assumption | omega | (split <;> omega) | (refine And.intro ?_ ?_ <;> split <;> omega)) | omega), (by (try dsimp only) <;> first | assumption | omega | ((try simp (disch := omega) only [w32_of, w64_of, w8_of]) <;> first | assumption | omega | (split <;> omega) | (refine And.intro ?_ ?_ <;> split <;> omega)) | omega), (by (try dsimp only) <;> (exact pb1)), (by (try dsimp only) <;> (exact pb2)), (by (try dsimp only) <;> (exact pb3))⟩
theorem v_shapeOfBytes {σ : SG} {wanted_0 : Int} (hσ : II σ) (qwanted_0 : 0 ≤ wanted_0 ∧ wanted_0 ≤ 3) (w0 : σ kR_at 0 ≤ σ kR_size 0) (w1 : 0 ≤ wanted_0 ∧ wanted_0 ≤ 3) (w2 : σ kR_levels 0 ≤ 55) : wp_ (fR_shapeOfBytes σ wanted_0) (fun zz_ => II zz_.2 ∧ FR [kR_at, kR_bigFirst, kR_faultKind, kR_faultPlace, kR_left, kR_levels, kR_open, kR_partKind, kR_plan, kR_planMany, kR_pointMany, kR_value, kR_xs, kR_ys] σ zz_.2 ∧ NF σ zz_.2 ∧ (σ kR_at 0 ≤ zz_.2 kR_at 0) ∧ (zz_.2 kR_at 0 ≤ σ kR_size 0) ∧ ((zz_.1 = true) → σ kR_at 0 + 5 ≤ zz_.2 kR_at 0) ∧ ((zz_.1 = false) → zz_.2 kR_levels 0 = σ kR_levels 0) ∧ ((zz_.1 = true) → SBk σ zz_.2 wanted_0)) := by
  unfold fR_shapeOfBytes
  have c1 := ii_kR_at hσ 0
  have c2 := ii_kR_size hσ 0
  have c3 := ii_kR_levels hσ 0
  refine wp_if (fun c4 => ?_) (fun c4 => ?_)
  · try simp (disch := omega) only [w32_of, w64_of, w8_of, decide_eq_true_eq, decide_eq_false_iff_not, Bool.not_eq_true, fR_there] at c4
    refine wp_bd (P := fun rr_ => (True)) ?_ ?_
    · have c5 := w32_rng (σ kR_at 0)
      refine wp_rdI (by (try dsimp only) <;> first | assumption | omega | ((try simp (disch := omega) only [w32_of, w64_of, w8_of]) <;> first | assumption | omega | (split <;> omega) | (refine And.intro ?_ ?_ <;> split <;> omega)) | omega) (by (try dsimp only) <;> first | assumption | omega | ((try simp (disch := omega) only [w32_of, w64_of, w8_of]) <;> first | assumption | omega | (split <;> omega) | (refine And.intro ?_ ?_ <;> split <;> omega)) | omega) (fun x_124 e_x_124 => ?_)
      have b_x_124 : (-128) ≤ x_124 ∧ x_124 ≤ 127 := by rw [e_x_124]; exact ii_kR_tape hσ _
      try simp (disch := omega) only [w32_of, w64_of, w8_of] at e_x_124
      have c6 := ii_kR_tape hσ (σ kR_at 0)
      have c8 := w8_rng x_124
      have c9 := w32_rng (w8 x_124)
      refine wp_if (fun c7 => ?_) (fun c7 => ?_)
      · try simp (disch := omega) only [w32_of, w64_of, w8_of, decide_eq_true_eq, decide_eq_false_iff_not, Bool.not_eq_true] at c7
        refine wp_rdI (by (try dsimp only) <;> first | assumption | omega | ((try simp (disch := omega) only [w32_of, w64_of, w8_of]) <;> first | assumption | omega | (split <;> omega) | (refine And.intro ?_ ?_ <;> split <;> omega)) | omega) (by (try dsimp only) <;> first | assumption | omega | ((try simp (disch := omega) only [w32_of, w64_of, w8_of]) <;> first | assumption | omega | (split <;> omega) | (refine And.intro ?_ ?_ <;> split <;> omega)) | omega) (fun x_127 e_x_127 => ?_)
        have b_x_127 : (-128) ≤ x_127 ∧ x_127 ≤ 127 := by rw [e_x_127]; exact ii_kR_tape hσ _
        try simp (disch := omega) only [w32_of, w64_of, w8_of] at e_x_127
        have c11 := w8_rng x_127
        have c12 := w32_rng (w8 x_127)
        refine wp_if (fun c10 => ?_) (fun c10 => ?_)
        · try simp (disch := omega) only [w32_of, w64_of, w8_of, decide_eq_true_eq, decide_eq_false_iff_not, Bool.not_eq_true] at c10
          exact wp_some (by (try dsimp only) <;> first | assumption | omega | ((try simp (disch := omega) only [w32_of, w64_of, w8_of]) <;> first | assumption | omega | (split <;> omega) | (refine And.intro ?_ ?_ <;> split <;> omega)) | omega)
        · try simp (disch := omega) only [w32_of, w64_of, w8_of, decide_eq_true_eq, decide_eq_false_iff_not, Bool.not_eq_true] at c10
          exact wp_some (by (try dsimp only) <;> first | assumption | omega | ((try simp (disch := omega) only [w32_of, w64_of, w8_of]) <;> first | assumption | omega | (split <;> omega) | (refine And.intro ?_ ?_ <;> split <;> omega)) | omega)
      · try simp (disch := omega) only [w32_of, w64_of, w8_of, decide_eq_true_eq, decide_eq_false_iff_not, Bool.not_eq_true] at c7
        exact wp_some (by (try dsimp only) <;> first | assumption | omega | ((try simp (disch := omega) only [w32_of, w64_of, w8_of]) <;> first | assumption | omega | (split <;> omega) | (refine And.intro ?_ ?_ <;> split <;> omega)) | omega)
    rintro b_133 _ g13
    refine wp_if (fun c14 => ?_) (fun c14 => ?_)
    · try simp (disch := omega) only [w32_of, w64_of, w8_of, decide_eq_true_eq, decide_eq_false_iff_not, Bool.not_eq_true] at c14
      refine wp_bd (v_wrong (σ := σ) (kind_0 := 1) (where_0 := (σ kR_at 0)) hσ (by (try dsimp only) <;> first | assumption | omega | ((try simp (disch := omega) only [w32_of, w64_of, w8_of]) <;> first | assumption | omega | (split <;> omega) | (refine And.intro ?_ ?_ <;> split <;> omega)) | omega) (by (try dsimp only) <;> first | assumption | omega | ((try simp (disch := omega) only [w32_of, w64_of, w8_of]) <;> first | assumption | omega | (split <;> omega) | (refine And.intro ?_ ?_ <;> split <;> omega)) | omega)) ?_
      rintro ⟨x_136, σ_135⟩ - y16
      try dsimp only at y16 ⊢
      obtain ⟨hσ_135, flσ_135, g15⟩ := y16
      have frσ_135 : FR [kR_at, kR_bigFirst, kR_faultKind, kR_faultPlace, kR_left, kR_levels, kR_open, kR_partKind, kR_plan, kR_planMany, kR_pointMany, kR_value, kR_xs, kR_ys] σ σ_135 := FR_le flσ_135 (by decide)
      have nfσ_135 : NF σ σ_135 := NF_fr (NF_refl _) flσ_135 (by decide)
      try simp (disch := omega) only [w32_of, w64_of, w8_of] at g15
      have c17 := ii_kR_at hσ_135 0
      have c18 := FR_at flσ_135 (c := kR_at) (by decide) 0
      have c19 := ii_kR_levels hσ_135 0
      have c20 := FR_at flσ_135 (c := kR_levels) (by decide) 0
      exact wp_some ⟨hσ_135, frσ_135, nfσ_135, (by (try dsimp only) <;> first | assumption | omega | ((try simp (disch := omega) only [w32_of, w64_of, w8_of]) <;> first | assumption | omega | (split <;> omega) | (refine And.intro ?_ ?_ <;> split <;> omega)) | omega), (by (try dsimp only) <;> first | assumption | omega | ((try simp (disch := omega) only [w32_of, w64_of, w8_of]) <;> first | assumption | omega | (split <;> omega) | (refine And.intro ?_ ?_ <;> split <;> omega)) | omega), (fun q => absurd (q.symm.trans g15) (by decide)), (by (try dsimp only) <;> (first | (intro _; exact lvk) | exact lvk9 | (intro _; omega))), (fun q => absurd (q.symm.trans g15) (by decide))⟩
    · try simp (disch := omega) only [w32_of, w64_of, w8_of, decide_eq_true_eq, decide_eq_false_iff_not, Bool.not_eq_true] at c14
      refine wp_bd (P := fun rr_ => (True)) ?_ ?_
      · have c21 := w32_rng (σ kR_at 0)
        refine wp_rdI (by (try dsimp only) <;> first | assumption | omega | ((try simp (disch := omega) only [w32_of, w64_of, w8_of]) <;> first | assumption | omega | (split <;> omega) | (refine And.intro ?_ ?_ <;> split <;> omega)) | omega) (by (try dsimp only) <;> first | assumption | omega | ((try simp (disch := omega) only [w32_of, w64_of, w8_of]) <;> first | assumption | omega | (split <;> omega) | (refine And.intro ?_ ?_ <;> split <;> omega)) | omega) (fun x_137 e_x_137 => ?_)
        have b_x_137 : (-128) ≤ x_137 ∧ x_137 ≤ 127 := by rw [e_x_137]; exact ii_kR_tape hσ _
        try simp (disch := omega) only [w32_of, w64_of, w8_of] at e_x_137
        have c22 := ii_kR_tape hσ (σ kR_at 0)
        have c24 := w8_rng x_137
        have c25 := w32_rng (w8 x_137)
        refine wp_if (fun c23 => ?_) (fun c23 => ?_)
        · try simp (disch := omega) only [w32_of, w64_of, w8_of, decide_eq_true_eq, decide_eq_false_iff_not, Bool.not_eq_true] at c23
          exact wp_some (by (try dsimp only) <;> first | assumption | omega | ((try simp (disch := omega) only [w32_of, w64_of, w8_of]) <;> first | assumption | omega | (split <;> omega) | (refine And.intro ?_ ?_ <;> split <;> omega)) | omega)
        · try simp (disch := omega) only [w32_of, w64_of, w8_of, decide_eq_true_eq, decide_eq_false_iff_not, Bool.not_eq_true] at c23
          exact wp_some (by (try dsimp only) <;> first | assumption | omega | ((try simp (disch := omega) only [w32_of, w64_of, w8_of]) <;> first | assumption | omega | (split <;> omega) | (refine And.intro ?_ ?_ <;> split <;> omega)) | omega)
      rintro x_142 _ g26
      have c27 := bz_bd x_142
      try simp (disch := omega) only [w32_of, w64_of, w8_of] at c27
      refine wp_wfI hσ b_kR_bigFirst (by (try dsimp only) <;> first | assumption | omega | ((try simp (disch := omega) only [w32_of, w64_of, w8_of]) <;> first | assumption | omega | (split <;> omega) | (refine And.intro ?_ ?_ <;> split <;> omega)) | omega) (fun σ_143 hσ_143 eσ_143 => ?_)
      try simp (disch := omega) only [w32_of, w64_of, w8_of] at eσ_143
      have flσ_143 := FR_sg eσ_143
      have frσ_143 : FR [kR_at, kR_bigFirst, kR_faultKind, kR_faultPlace, kR_left, kR_levels, kR_open, kR_partKind, kR_plan, kR_planMany, kR_pointMany, kR_value, kR_xs, kR_ys] σ σ_143 := FR_le flσ_143 (by decide)
      have nfσ_143 : NF σ σ_143 := NF_fr (NF_refl _) flσ_143 (by decide)
      have c28 := ii_kR_at hσ_143 0
      have c29 := FR_at flσ_143 (c := kR_at) (by decide) 0
      refine wp_wfI hσ_143 b_kR_at (by (try dsimp only) <;> first | assumption | omega | ((try simp (disch := omega) only [w32_of, w64_of, w8_of]) <;> first | assumption | omega | (split <;> omega) | (refine And.intro ?_ ?_ <;> split <;> omega)) | omega) (fun σ_144 hσ_144 eσ_144 => ?_)
      try simp (disch := omega) only [w32_of, w64_of, w8_of] at eσ_144
      have flσ_144 := FR_sg eσ_144
      have frσ_144 : FR [kR_at, kR_bigFirst, kR_faultKind, kR_faultPlace, kR_left, kR_levels, kR_open, kR_partKind, kR_plan, kR_planMany, kR_pointMany, kR_value, kR_xs, kR_ys] σ σ_144 := FR_tr frσ_143 flσ_144 (by decide) (by decide)
      have nfσ_144 : NF σ σ_144 := NF_fr nfσ_143 flσ_144 (by decide)
      have c31 := ii_kR_at hσ_144 0
      have c32 := sg_val eσ_144
      have c33 := ii_kR_size hσ_144 0
      have c34 := FR_at flσ_144 (c := kR_size) (by decide) 0
      have c35 := ii_kR_size hσ_143 0
      have c36 := FR_at flσ_143 (c := kR_size) (by decide) 0
      refine wp_if (fun c30 => ?_) (fun c30 => ?_)
      · try simp (disch := omega) only [w32_of, w64_of, w8_of, decide_eq_true_eq, decide_eq_false_iff_not, Bool.not_eq_true, fR_there] at c30
        refine wp_bd (v_whole (σ := σ_144) (from_0 := (σ_144 kR_at 0)) (n_0 := 4) hσ_144 (by (try dsimp only) <;> first | assumption | omega | ((try simp (disch := omega) only [w32_of, w64_of, w8_of]) <;> first | assumption | omega | (split <;> omega) | (refine And.intro ?_ ?_ <;> split <;> omega)) | omega) (by (try dsimp only) <;> first | assumption | omega | ((try simp (disch := omega) only [w32_of, w64_of, w8_of]) <;> first | assumption | omega | (split <;> omega) | (refine And.intro ?_ ?_ <;> split <;> omega)) | omega) (by (try dsimp only) <;> first | assumption | omega | ((try simp (disch := omega) only [w32_of, w64_of, w8_of]) <;> first | assumption | omega | (split <;> omega) | (refine And.intro ?_ ?_ <;> split <;> omega)) | omega) (by (try dsimp only) <;> first | assumption | omega | ((try simp (disch := omega) only [w32_of, w64_of, w8_of]) <;> first | assumption | omega | (split <;> omega) | (refine And.intro ?_ ?_ <;> split <;> omega)) | omega)) ?_
        rintro x_147 - gw
        try simp (disch := omega) only [w32_of, w64_of, w8_of] at gw
        have c37 := q_lan_bd x_147 (m := 536870911) (by decide) (by decide)
        try simp (disch := omega) only [w32_of, w64_of, w8_of] at c37
        have c38 := w64_rng (q_lan x_147 536870911)
        have c40 := w32_rng (q_lrm (q_lan x_147 536870911) 1000)
        have c41 := w32_rng wanted_0
        refine wp_lt (fun x_149 e_x_149 => ?_)
        try simp (disch := omega) only [w32_of, w64_of, w8_of] at e_x_149
        have hkb : ∀ k, k = q_lrm (q_lan x_147 536870911) 1000 → x_149 = true → (1 ≤ k ∧ k ≤ 7) ∧ (wanted_0 = 0 ∨ k = wanted_0) := fun k ek q => by
          rw [e_x_149] at q
          have q2 := of_decide_eq_true q
          obtain ⟨⟨-, q3⟩, q4⟩ := q2
          unfold fR_in at q3
          have q5 := of_decide_eq_true q3
          have kb := lrm1000 (x := q_lan x_147 536870911) (q_lan_bd x_147 (m := 536870911) (by decide) (by decide))
          rw [← ek] at q5 q4 kb
          simp (disch := omega) only [w32_of, w64_of] at q4 q5
          exact ⟨by omega, q4⟩
        obtain ⟨kind_9, hkd⟩ : ∃ k9, k9 = q_lrm (q_lan x_147 536870911) 1000 := ⟨_, rfl⟩
        have hkz := lrm1000 (x := q_lan x_147 536870911) (q_lan_bd x_147 (m := 536870911) (by decide) (by decide))
        refine wp_if (fun c42 => ?_) (fun c42 => ?_)
        · have hk := c42
          try simp (disch := omega) only [w32_of, w64_of, w8_of, decide_eq_true_eq, decide_eq_false_iff_not, Bool.not_eq_true] at c42
          obtain ⟨⟨kb1, kb2⟩, kb3⟩ := hkb kind_9 hkd hk
          have c44 := q_lsr_rng x_147 30
          have c45 := w64_rng (q_lsr x_147 30)
          refine wp_if (fun c43 => ?_) (fun c43 => ?_)
          · try simp (disch := omega) only [w32_of, w64_of, w8_of, decide_eq_true_eq, decide_eq_false_iff_not, Bool.not_eq_true] at c43
            refine wp_bd (v_wrong (σ := σ_144) (kind_0 := 9) (where_0 := (σ_144 kR_at 0)) hσ_144 (by (try dsimp only) <;> first | assumption | omega | ((try simp (disch := omega) only [w32_of, w64_of, w8_of]) <;> first | assumption | omega | (split <;> omega) | (refine And.intro ?_ ?_ <;> split <;> omega)) | omega) (by (try dsimp only) <;> first | assumption | omega | ((try simp (disch := omega) only [w32_of, w64_of, w8_of]) <;> first | assumption | omega | (split <;> omega) | (refine And.intro ?_ ?_ <;> split <;> omega)) | omega)) ?_
            rintro ⟨x_153, σ_152⟩ - y47
            try dsimp only at y47 ⊢
            obtain ⟨hσ_152, flσ_152, g46⟩ := y47
            have frσ_152 : FR [kR_at, kR_bigFirst, kR_faultKind, kR_faultPlace, kR_left, kR_levels, kR_open, kR_partKind, kR_plan, kR_planMany, kR_pointMany, kR_value, kR_xs, kR_ys] σ σ_152 := FR_tr frσ_144 flσ_152 (by decide) (by decide)
            have nfσ_152 : NF σ σ_152 := NF_fr nfσ_144 flσ_152 (by decide)
            try simp (disch := omega) only [w32_of, w64_of, w8_of] at g46
            have c48 := ii_kR_at hσ_152 0
            have c49 := FR_at flσ_152 (c := kR_at) (by decide) 0
            have c50 := ii_kR_levels hσ_152 0
            have c51 := FR_at flσ_152 (c := kR_levels) (by decide) 0
            have c52 := ii_kR_levels hσ_144 0
            have c53 := FR_at flσ_144 (c := kR_levels) (by decide) 0
            have c54 := ii_kR_levels hσ_143 0
            have c55 := FR_at flσ_143 (c := kR_levels) (by decide) 0
            exact wp_some ⟨hσ_152, frσ_152, nfσ_152, (by (try dsimp only) <;> first | assumption | omega | ((try simp (disch := omega) only [w32_of, w64_of, w8_of]) <;> first | assumption | omega | (split <;> omega) | (refine And.intro ?_ ?_ <;> split <;> omega)) | omega), (by (try dsimp only) <;> first | assumption | omega | ((try simp (disch := omega) only [w32_of, w64_of, w8_of]) <;> first | assumption | omega | (split <;> omega) | (refine And.intro ?_ ?_ <;> split <;> omega)) | omega), (fun q => absurd (q.symm.trans g46) (by decide)), (by (try dsimp only) <;> (first | (intro _; exact lvk) | exact lvk9 | (intro _; omega))), (fun q => absurd (q.symm.trans g46) (by decide))⟩
          · try simp (disch := omega) only [w32_of, w64_of, w8_of, decide_eq_true_eq, decide_eq_false_iff_not, Bool.not_eq_true] at c43
            have c57 := ii_kR_open hσ_144 0
            have c58 := FR_at flσ_144 (c := kR_open) (by decide) 0
            have c59 := ii_kR_open hσ_143 0
            have c60 := FR_at flσ_143 (c := kR_open) (by decide) 0
            have c61 := ii_kR_open hσ 0
            have c62 := w32_rng (σ_144 kR_open 0)
            refine wp_if (fun c56 => ?_) (fun c56 => ?_)
            · try simp (disch := omega) only [w32_of, w64_of, w8_of, decide_eq_true_eq, decide_eq_false_iff_not, Bool.not_eq_true] at c56
              refine wp_bd (v_wrong (σ := σ_144) (kind_0 := 6) (where_0 := (σ_144 kR_at 0)) hσ_144 (by (try dsimp only) <;> first | assumption | omega | ((try simp (disch := omega) only [w32_of, w64_of, w8_of]) <;> first | assumption | omega | (split <;> omega) | (refine And.intro ?_ ?_ <;> split <;> omega)) | omega) (by (try dsimp only) <;> first | assumption | omega | ((try simp (disch := omega) only [w32_of, w64_of, w8_of]) <;> first | assumption | omega | (split <;> omega) | (refine And.intro ?_ ?_ <;> split <;> omega)) | omega)) ?_
              rintro ⟨x_156, σ_155⟩ - y64
              try dsimp only at y64 ⊢
              obtain ⟨hσ_155, flσ_155, g63⟩ := y64
              have frσ_155 : FR [kR_at, kR_bigFirst, kR_faultKind, kR_faultPlace, kR_left, kR_levels, kR_open, kR_partKind, kR_plan, kR_planMany, kR_pointMany, kR_value, kR_xs, kR_ys] σ σ_155 := FR_tr frσ_144 flσ_155 (by decide) (by decide)
              have nfσ_155 : NF σ σ_155 := NF_fr nfσ_144 flσ_155 (by decide)
              try simp (disch := omega) only [w32_of, w64_of, w8_of] at g63
              have c65 := ii_kR_at hσ_155 0
              have c66 := FR_at flσ_155 (c := kR_at) (by decide) 0
              have c67 := ii_kR_levels hσ_155 0
              have c68 := FR_at flσ_155 (c := kR_levels) (by decide) 0
              have c69 := ii_kR_levels hσ_144 0
              have c70 := FR_at flσ_144 (c := kR_levels) (by decide) 0
              have c71 := ii_kR_levels hσ_143 0
              have c72 := FR_at flσ_143 (c := kR_levels) (by decide) 0
              exact wp_some ⟨hσ_155, frσ_155, nfσ_155, (by (try dsimp only) <;> first | assumption | omega | ((try simp (disch := omega) only [w32_of, w64_of, w8_of]) <;> first | assumption | omega | (split <;> omega) | (refine And.intro ?_ ?_ <;> split <;> omega)) | omega), (by (try dsimp only) <;> first | assumption | omega | ((try simp (disch := omega) only [w32_of, w64_of, w8_of]) <;> first | assumption | omega | (split <;> omega) | (refine And.intro ?_ ?_ <;> split <;> omega)) | omega), (fun q => absurd (q.symm.trans g63) (by decide)), (by (try dsimp only) <;> (first | (intro _; exact lvk) | exact lvk9 | (intro _; omega))), (fun q => absurd (q.symm.trans g63) (by decide))⟩
            · try simp (disch := omega) only [w32_of, w64_of, w8_of, decide_eq_true_eq, decide_eq_false_iff_not, Bool.not_eq_true] at c56
              refine wp_wfI hσ_144 b_kR_at (by (try dsimp only) <;> first | assumption | omega | ((try simp (disch := omega) only [w32_of, w64_of, w8_of]) <;> first | assumption | omega | (split <;> omega) | (refine And.intro ?_ ?_ <;> split <;> omega)) | omega) (fun σ_157 hσ_157 eσ_157 => ?_)
              try simp (disch := omega) only [w32_of, w64_of, w8_of] at eσ_157
              have flσ_157 := FR_sg eσ_157
              have frσ_157 : FR [kR_at, kR_bigFirst, kR_faultKind, kR_faultPlace, kR_left, kR_levels, kR_open, kR_partKind, kR_plan, kR_planMany, kR_pointMany, kR_value, kR_xs, kR_ys] σ σ_157 := FR_tr frσ_144 flσ_157 (by decide) (by decide)
              have nfσ_157 : NF σ σ_157 := NF_fr nfσ_144 flσ_157 (by decide)
              refine wp_bx (P := fun rr_ => II rr_ ∧ FR [kR_at, kR_bigFirst, kR_faultKind, kR_faultPlace, kR_left, kR_levels, kR_open, kR_partKind, kR_plan, kR_planMany, kR_pointMany, kR_value, kR_xs, kR_ys] σ rr_ ∧ NF σ rr_ ∧ (σ_144 kR_at 0 + 4 ≤ rr_ kR_at 0) ∧ (rr_ kR_at 0 ≤ σ kR_size 0) ∧ (FR [kR_at] σ_144 rr_)) ?_ ?_
              · have c74 := q_lsr_rng x_147 29
                have c75 := q_lan_bd (q_lsr x_147 29) (m := 1) (by decide) (by decide)
                try simp (disch := omega) only [w32_of, w64_of, w8_of] at c75
                have c76 := w64_rng (q_lan (q_lsr x_147 29) 1)
                refine wp_if (fun c73 => ?_) (fun c73 => ?_)
                · try simp (disch := omega) only [w32_of, w64_of, w8_of, decide_eq_true_eq, decide_eq_false_iff_not, Bool.not_eq_true] at c73
                  have c78 := ii_kR_at hσ_157 0
                  have c79 := sg_val eσ_157
                  have c80 := ii_kR_size hσ_157 0
                  have c81 := FR_at flσ_157 (c := kR_size) (by decide) 0
                  refine wp_if (fun c77 => ?_) (fun c77 => ?_)
                  · try simp (disch := omega) only [w32_of, w64_of, w8_of, decide_eq_true_eq, decide_eq_false_iff_not, Bool.not_eq_true, fR_there] at c77
                    refine wp_wfI hσ_157 b_kR_at (by (try dsimp only) <;> first | assumption | omega | ((try simp (disch := omega) only [w32_of, w64_of, w8_of]) <;> first | assumption | omega | (split <;> omega) | (refine And.intro ?_ ?_ <;> split <;> omega)) | omega) (fun σ_164 hσ_164 eσ_164 => ?_)
                    try simp (disch := omega) only [w32_of, w64_of, w8_of] at eσ_164
                    have flσ_164 := FR_sg eσ_164
                    have frσ_164 : FR [kR_at, kR_bigFirst, kR_faultKind, kR_faultPlace, kR_left, kR_levels, kR_open, kR_partKind, kR_plan, kR_planMany, kR_pointMany, kR_value, kR_xs, kR_ys] σ σ_164 := FR_tr frσ_157 flσ_164 (by decide) (by decide)
                    have nfσ_164 : NF σ σ_164 := NF_fr nfσ_157 flσ_164 (by decide)
                    have c82 := ii_kR_at hσ_164 0
                    have c83 := sg_val eσ_164
                    exact wp_some (x_inl ⟨hσ_164, frσ_164, nfσ_164, (by (try dsimp only) <;> first | assumption | omega | ((try simp (disch := omega) only [w32_of, w64_of, w8_of]) <;> first | assumption | omega | (split <;> omega) | (refine And.intro ?_ ?_ <;> split <;> omega)) | omega), (by (try dsimp only) <;> first | assumption | omega | ((try simp (disch := omega) only [w32_of, w64_of, w8_of]) <;> first | assumption | omega | (split <;> omega) | (refine And.intro ?_ ?_ <;> split <;> omega)) | omega), (by (try dsimp only) <;> (first | exact FR_tr flσ_157 flσ_164 (by decide) (by decide) | exact flσ_157))⟩)
                  · try simp (disch := omega) only [w32_of, w64_of, w8_of, decide_eq_true_eq, decide_eq_false_iff_not, Bool.not_eq_true, fR_there] at c77
                    refine wp_bd (v_wrong (σ := σ_157) (kind_0 := 3) (where_0 := (σ_157 kR_at 0)) hσ_157 (by (try dsimp only) <;> first | assumption | omega | ((try simp (disch := omega) only [w32_of, w64_of, w8_of]) <;> first | assumption | omega | (split <;> omega) | (refine And.intro ?_ ?_ <;> split <;> omega)) | omega) (by (try dsimp only) <;> first | assumption | omega | ((try simp (disch := omega) only [w32_of, w64_of, w8_of]) <;> first | assumption | omega | (split <;> omega) | (refine And.intro ?_ ?_ <;> split <;> omega)) | omega)) ?_
                    rintro ⟨x_168, σ_167⟩ - y85
                    try dsimp only at y85 ⊢
                    obtain ⟨hσ_167, flσ_167, g84⟩ := y85
                    have frσ_167 : FR [kR_at, kR_bigFirst, kR_faultKind, kR_faultPlace, kR_left, kR_levels, kR_open, kR_partKind, kR_plan, kR_planMany, kR_pointMany, kR_value, kR_xs, kR_ys] σ σ_167 := FR_tr frσ_157 flσ_167 (by decide) (by decide)
                    have nfσ_167 : NF σ σ_167 := NF_fr nfσ_157 flσ_167 (by decide)
                    try simp (disch := omega) only [w32_of, w64_of, w8_of] at g84
                    have c86 := ii_kR_at hσ_167 0
                    have c87 := FR_at flσ_167 (c := kR_at) (by decide) 0
                    have c88 := ii_kR_levels hσ_167 0
                    have c89 := FR_at flσ_167 (c := kR_levels) (by decide) 0
                    have c90 := ii_kR_levels hσ_157 0
                    have c91 := FR_at flσ_157 (c := kR_levels) (by decide) 0
                    have c92 := ii_kR_levels hσ_144 0
                    have c93 := FR_at flσ_144 (c := kR_levels) (by decide) 0
                    have c94 := ii_kR_levels hσ_143 0
                    have c95 := FR_at flσ_143 (c := kR_levels) (by decide) 0
                    exact wp_some (x_inr ⟨hσ_167, frσ_167, nfσ_167, (by (try dsimp only) <;> first | assumption | omega | ((try simp (disch := omega) only [w32_of, w64_of, w8_of]) <;> first | assumption | omega | (split <;> omega) | (refine And.intro ?_ ?_ <;> split <;> omega)) | omega), (by (try dsimp only) <;> first | assumption | omega | ((try simp (disch := omega) only [w32_of, w64_of, w8_of]) <;> first | assumption | omega | (split <;> omega) | (refine And.intro ?_ ?_ <;> split <;> omega)) | omega), (fun q => absurd (q.symm.trans g84) (by decide)), (by (try dsimp only) <;> (first | (intro _; exact lvk) | exact lvk9 | (intro _; omega))), (fun q => absurd (q.symm.trans g84) (by decide))⟩)
                · try simp (disch := omega) only [w32_of, w64_of, w8_of, decide_eq_true_eq, decide_eq_false_iff_not, Bool.not_eq_true] at c73
                  have c96 := ii_kR_at hσ_157 0
                  have c97 := sg_val eσ_157
                  exact wp_some (x_inl ⟨hσ_157, frσ_157, nfσ_157, (by (try dsimp only) <;> first | assumption | omega | ((try simp (disch := omega) only [w32_of, w64_of, w8_of]) <;> first | assumption | omega | (split <;> omega) | (refine And.intro ?_ ?_ <;> split <;> omega)) | omega), (by (try dsimp only) <;> first | assumption | omega | ((try simp (disch := omega) only [w32_of, w64_of, w8_of]) <;> first | assumption | omega | (split <;> omega) | (refine And.intro ?_ ?_ <;> split <;> omega)) | omega), (by (try dsimp only) <;> (first | exact FR_tr flσ_157 flσ_164 (by decide) (by decide) | exact flσ_157))⟩)
              rintro σ_170 ⟨hσ_170, frσ_170, nfσ_170, g98, g99, f170⟩
              refine wp_rdI (by (try dsimp only) <;> first | assumption | omega | ((try simp (disch := omega) only [w32_of, w64_of, w8_of]) <;> first | assumption | omega | (split <;> omega) | (refine And.intro ?_ ?_ <;> split <;> omega)) | omega) (by (try dsimp only) <;> first | assumption | omega | ((try simp (disch := omega) only [w32_of, w64_of, w8_of]) <;> first | assumption | omega | (split <;> omega) | (refine And.intro ?_ ?_ <;> split <;> omega)) | omega) (fun x_171 e_x_171 => ?_)
              have b_x_171 : 0 ≤ x_171 ∧ x_171 ≤ 2048 := by rw [e_x_171]; exact ii_kR_planMany hσ_170 _
              try simp (disch := omega) only [w32_of, w64_of, w8_of] at e_x_171
              have c100 := ii_kR_planMany hσ_170 32
              have c102 := w32_rng (x_171 + 2)
              refine wp_if (fun c101 => ?_) (fun c101 => ?_)
              · try simp (disch := omega) only [w32_of, w64_of, w8_of, decide_eq_true_eq, decide_eq_false_iff_not, Bool.not_eq_true] at c101
                have c103 := ii_kR_at hσ_170 0
                refine wp_bd (v_wrong (σ := σ_170) (kind_0 := 7) (where_0 := (σ_170 kR_at 0)) hσ_170 (by (try dsimp only) <;> first | assumption | omega | ((try simp (disch := omega) only [w32_of, w64_of, w8_of]) <;> first | assumption | omega | (split <;> omega) | (refine And.intro ?_ ?_ <;> split <;> omega)) | omega) (by (try dsimp only) <;> first | assumption | omega | ((try simp (disch := omega) only [w32_of, w64_of, w8_of]) <;> first | assumption | omega | (split <;> omega) | (refine And.intro ?_ ?_ <;> split <;> omega)) | omega)) ?_
                rintro ⟨x_176, σ_175⟩ - y105
                try dsimp only at y105 ⊢
                obtain ⟨hσ_175, flσ_175, g104⟩ := y105
                have frσ_175 : FR [kR_at, kR_bigFirst, kR_faultKind, kR_faultPlace, kR_left, kR_levels, kR_open, kR_partKind, kR_plan, kR_planMany, kR_pointMany, kR_value, kR_xs, kR_ys] σ σ_175 := FR_tr frσ_170 flσ_175 (by decide) (by decide)
                have nfσ_175 : NF σ σ_175 := NF_fr nfσ_170 flσ_175 (by decide)
                try simp (disch := omega) only [w32_of, w64_of, w8_of] at g104
                have lvk : σ_175 kR_levels 0 = σ kR_levels 0 := by rw [FR_at flσ_175 (c := kR_levels) (by decide), FR_at f170 (c := kR_levels) (by decide), FR_at flσ_144 (c := kR_levels) (by decide), FR_at flσ_143 (c := kR_levels) (by decide)]
                have c106 := ii_kR_at hσ_175 0
                have c107 := FR_at flσ_175 (c := kR_at) (by decide) 0
                have c108 := ii_kR_levels hσ_175 0
                have c109 := FR_at flσ_175 (c := kR_levels) (by decide) 0
                have c110 := ii_kR_levels hσ_170 0
                exact wp_some ⟨hσ_175, frσ_175, nfσ_175, (by (try dsimp only) <;> first | assumption | omega | ((try simp (disch := omega) only [w32_of, w64_of, w8_of]) <;> first | assumption | omega | (split <;> omega) | (refine And.intro ?_ ?_ <;> split <;> omega)) | omega), (by (try dsimp only) <;> first | assumption | omega | ((try simp (disch := omega) only [w32_of, w64_of, w8_of]) <;> first | assumption | omega | (split <;> omega) | (refine And.intro ?_ ?_ <;> split <;> omega)) | omega), (fun q => absurd (q.symm.trans g104) (by decide)), (by (try dsimp only) <;> (first | (intro _; exact lvk) | exact lvk9 | (intro _; omega))), (fun q => absurd (q.symm.trans g104) (by decide))⟩
              · try simp (disch := omega) only [w32_of, w64_of, w8_of, decide_eq_true_eq, decide_eq_false_iff_not, Bool.not_eq_true] at c101
                refine wp_bd (v_tell (σ := σ_170) (v_0 := (q_lrm (q_lan x_147 536870911) 1000)) hσ_170 (by (try dsimp only) <;> first | assumption | omega | ((try simp (disch := omega) only [w32_of, w64_of, w8_of]) <;> first | assumption | omega | (split <;> omega) | (refine And.intro ?_ ?_ <;> split <;> omega)) | omega)) ?_
                rintro σ_178 - ⟨hσ_178, flσ_178, ngσ_178, gt1, gt2, gt3⟩
                have frσ_178 : FR [kR_at, kR_bigFirst, kR_faultKind, kR_faultPlace, kR_left, kR_levels, kR_open, kR_partKind, kR_plan, kR_planMany, kR_pointMany, kR_value, kR_xs, kR_ys] σ σ_178 := FR_tr frσ_170 flσ_178 (by decide) (by decide)
                have nfσ_178 : NF σ σ_178 := NF_tr nfσ_170 ngσ_178
                have c111 := ii_kR_planMany hσ_178 32
                try simp (disch := omega) only [w32_of, w64_of, w8_of] at gt1
                try simp (disch := omega) only [w32_of, w64_of, w8_of] at gt2
                try simp (disch := omega) only [w32_of, w64_of, w8_of] at gt3
                have ta1 := gt1
                have ta2 := gt2
                have ta3 := gt3
                have m170 : σ_170 kR_planMany 32 = σ kR_planMany 32 := by rw [FR_at f170 (c := kR_planMany) (by decide), FR_at flσ_144 (c := kR_planMany) (by decide), FR_at flσ_143 (c := kR_planMany) (by decide)]
                have p170 : ∀ i, σ_170 kR_plan i = σ kR_plan i := fun i => by rw [FR_at f170 (c := kR_plan) (by decide), FR_at flσ_144 (c := kR_plan) (by decide), FR_at flσ_143 (c := kR_plan) (by decide)]
                refine wp_bd (v_tell (σ := σ_178) (v_0 := 0) hσ_178 (by (try dsimp only) <;> first | assumption | omega | ((try simp (disch := omega) only [w32_of, w64_of, w8_of]) <;> first | assumption | omega | (split <;> omega) | (refine And.intro ?_ ?_ <;> split <;> omega)) | omega)) ?_
                rintro σ_180 - ⟨hσ_180, flσ_180, ngσ_180, gt1, gt2, gt3⟩
                have frσ_180 : FR [kR_at, kR_bigFirst, kR_faultKind, kR_faultPlace, kR_left, kR_levels, kR_open, kR_partKind, kR_plan, kR_planMany, kR_pointMany, kR_value, kR_xs, kR_ys] σ σ_180 := FR_tr frσ_178 flσ_180 (by decide) (by decide)
                have nfσ_180 : NF σ σ_180 := NF_tr nfσ_178 ngσ_180
                have c112 := ii_kR_planMany hσ_180 32
                try simp (disch := omega) only [w32_of, w64_of, w8_of] at gt1
                try simp (disch := omega) only [w32_of, w64_of, w8_of] at gt2
                try simp (disch := omega) only [w32_of, w64_of, w8_of] at gt3
                rw [m170] at ta1 ta2 ta3
                have m178 : σ_178 kR_planMany 32 = σ kR_planMany 32 + 1 := ta1
                rw [m178] at gt1 gt2 gt3
                have m180 : σ_180 kR_planMany 32 = σ kR_planMany 32 + 2 := by omega
                have tk : σ_180 kR_plan (65536 + σ kR_planMany 32) = kind_9 := by rw [gt3 _ (by omega)]; exact ta2.trans hkd.symm
                have tn : σ_180 kR_plan (65536 + σ kR_planMany 32 + 1) = 0 := by rw [show 65536 + σ kR_planMany 32 + 1 = 65536 + (σ kR_planMany 32 + 1) by omega]; exact gt2
                have tb : ∀ i, i < 65536 + σ kR_planMany 32 → σ_180 kR_plan i = σ kR_plan i := fun i hi => by rw [gt3 i (by omega), ta3 i (by omega)]; exact p170 i
                have q180 : σ_180 kR_pointMany 32 = σ kR_pointMany 32 := by rw [FR_at flσ_180 (c := kR_pointMany) (by decide), FR_at flσ_178 (c := kR_pointMany) (by decide), FR_at f170 (c := kR_pointMany) (by decide), FR_at flσ_144 (c := kR_pointMany) (by decide), FR_at flσ_143 (c := kR_pointMany) (by decide)]
                have lev : ∀ c, (c = kR_levels ∨ c = kR_open ∨ c = kR_left ∨ c = kR_partKind) → ∀ i, σ_180 c i = σ c i := fun c hc i => by
                  rcases hc with rfl | rfl | rfl | rfl <;> rw [FR_at flσ_180 (by decide), FR_at flσ_178 (by decide), FR_at f170 (by decide), FR_at flσ_144 (by decide), FR_at flσ_143 (by decide)]
                have bm0 := ii_kR_planMany hσ 32
                refine wp_rdI (by (try dsimp only) <;> first | assumption | omega | ((try simp (disch := omega) only [w32_of, w64_of, w8_of]) <;> first | assumption | omega | (split <;> omega) | (refine And.intro ?_ ?_ <;> split <;> omega)) | omega) (by (try dsimp only) <;> first | assumption | omega | ((try simp (disch := omega) only [w32_of, w64_of, w8_of]) <;> first | assumption | omega | (split <;> omega) | (refine And.intro ?_ ?_ <;> split <;> omega)) | omega) (fun x_181 e_x_181 => ?_)
                have b_x_181 : 0 ≤ x_181 ∧ x_181 ≤ 2048 := by rw [e_x_181]; exact ii_kR_planMany hσ_180 _
                try simp (disch := omega) only [w32_of, w64_of, w8_of] at e_x_181
                refine wp_if (fun c113 => ?_) (fun c113 => ?_)
                · try simp (disch := omega) only [w32_of, w64_of, w8_of, decide_eq_true_eq, decide_eq_false_iff_not, Bool.not_eq_true] at c113
                  have z4 : 65536 + (x_181 - 1) = 65536 + σ kR_planMany 32 + 1 := by omega
                  have c114 := ii_kR_at hσ_180 0
                  have c115 := FR_at flσ_180 (c := kR_at) (by decide) 0
                  have c116 := ii_kR_at hσ_178 0
                  have c117 := FR_at flσ_178 (c := kR_at) (by decide) 0
                  have c118 := ii_kR_at hσ_170 0
                  have c119 := ii_kR_size hσ_180 0
                  have c120 := FR_at flσ_180 (c := kR_size) (by decide) 0
                  have c121 := ii_kR_size hσ_178 0
                  have c122 := FR_at flσ_178 (c := kR_size) (by decide) 0
                  have c123 := ii_kR_size hσ_170 0
                  have c124 := FR_at frσ_170 (c := kR_size) (by decide) 0
                  refine wp_bd (v_pointOfBytes (σ := σ_180) (number_0 := (x_181 - 1)) hσ_180 (by (try dsimp only) <;> first | assumption | omega | ((try simp (disch := omega) only [w32_of, w64_of, w8_of]) <;> first | assumption | omega | (split <;> omega) | (refine And.intro ?_ ?_ <;> split <;> omega)) | omega) (by (try dsimp only) <;> first | assumption | omega | ((try simp (disch := omega) only [w32_of, w64_of, w8_of]) <;> first | assumption | omega | (split <;> omega) | (refine And.intro ?_ ?_ <;> split <;> omega)) | omega) (by (try dsimp only) <;> first | assumption | omega | ((try simp (disch := omega) only [w32_of, w64_of, w8_of]) <;> first | assumption | omega | (split <;> omega) | (refine And.intro ?_ ?_ <;> split <;> omega)) | omega) (by rw [z4]; exact tn)) ?_
                  rintro ⟨x_186, σ_185⟩ - y125
                  try dsimp only at y125 ⊢
                  obtain ⟨hσ_185, flσ_185, ngσ_185, gp1, gp2, gp3, gp4⟩ := y125
                  have frσ_185 : FR [kR_at, kR_bigFirst, kR_faultKind, kR_faultPlace, kR_left, kR_levels, kR_open, kR_partKind, kR_plan, kR_planMany, kR_pointMany, kR_value, kR_xs, kR_ys] σ σ_185 := FR_tr frσ_180 flσ_185 (by decide) (by decide)
                  have nfσ_185 : NF σ σ_185 := NF_tr nfσ_180 ngσ_185
                  have c126 := ii_kR_at hσ_185 0
                  try simp (disch := omega) only [w32_of, w64_of, w8_of] at gp1
                  try simp (disch := omega) only [w32_of, w64_of, w8_of] at gp2
                  have c127 := ii_kR_pointMany hσ_185 32
                  have c128 := ii_kR_pointMany hσ_180 32
                  have c129 := FR_at flσ_180 (c := kR_pointMany) (by decide) 32
                  have c130 := ii_kR_pointMany hσ_178 32
                  have c131 := FR_at flσ_178 (c := kR_pointMany) (by decide) 32
                  have c132 := ii_kR_pointMany hσ_170 32
                  try simp (disch := omega) only [w32_of, w64_of, w8_of] at gp3
                  try simp (disch := omega) only [w32_of, w64_of, w8_of] at gp4
                  have lvk : σ_185 kR_levels 0 = σ kR_levels 0 := by rw [FR_at flσ_185 (c := kR_levels) (by decide)]; exact lev _ (Or.inl rfl) 0
                  rw [z4] at gp3 gp4
                  have sbk : (x_186 = true) → SBk σ σ_185 wanted_0 := fun q => by
                    obtain ⟨g1, g2, g3⟩ := gp3 q
                    refine Or.inl ⟨lvk, by rw [FR_at flσ_185 (c := kR_open) (by decide)]; exact lev _ (Or.inr (Or.inl rfl)) 0, fun j => by rw [FR_at flσ_185 (c := kR_left) (by decide)]; exact lev _ (Or.inr (Or.inr (Or.inl rfl))) j, fun j => by rw [FR_at flσ_185 (c := kR_partKind) (by decide)]; exact lev _ (Or.inr (Or.inr (Or.inr rfl))) j, 1, by omega, by omega, fun w => by omega, ?_⟩
                    exact EN_two (n := σ_185 kR_plan (65536 + σ kR_planMany 32 + 1)) (by omega) (by rw [gp4 _ (by omega), tk]; omega) rfl ⟨g2, by omega⟩ (fun _ => g3) (by rw [FR_at flσ_185 (c := kR_planMany) (by decide), m180]; omega) (by omega) (fun i hi => by rw [gp4 i (by omega)]; exact tb i hi)
                  have c133 := ii_kR_levels hσ_185 0
                  have c134 := FR_at flσ_185 (c := kR_levels) (by decide) 0
                  have c135 := ii_kR_levels hσ_180 0
                  have c136 := FR_at flσ_180 (c := kR_levels) (by decide) 0
                  have c137 := ii_kR_levels hσ_178 0
                  have c138 := FR_at flσ_178 (c := kR_levels) (by decide) 0
                  have c139 := ii_kR_levels hσ_170 0
                  exact wp_some ⟨hσ_185, frσ_185, nfσ_185, (by (try dsimp only) <;> first | assumption | omega | ((try simp (disch := omega) only [w32_of, w64_of, w8_of]) <;> first | assumption | omega | (split <;> omega) | (refine And.intro ?_ ?_ <;> split <;> omega)) | omega), (by (try dsimp only) <;> first | assumption | omega | ((try simp (disch := omega) only [w32_of, w64_of, w8_of]) <;> first | assumption | omega | (split <;> omega) | (refine And.intro ?_ ?_ <;> split <;> omega)) | omega), (by intro q9; have k9_0 := gp3 q9; (try dsimp only) <;> first | assumption | omega | ((try simp (disch := omega) only [w32_of, w64_of, w8_of]) <;> first | assumption | omega | (split <;> omega) | (refine And.intro ?_ ?_ <;> split <;> omega)) | omega), (by (try dsimp only) <;> (first | (intro _; exact lvk) | exact lvk9 | (intro _; omega))), (by (try dsimp only) <;> (exact sbk))⟩
                · try simp (disch := omega) only [w32_of, w64_of, w8_of, decide_eq_true_eq, decide_eq_false_iff_not, Bool.not_eq_true] at c113
                  have c141 := ii_kR_at hσ_180 0
                  have c142 := FR_at flσ_180 (c := kR_at) (by decide) 0
                  have c143 := ii_kR_at hσ_178 0
                  have c144 := FR_at flσ_178 (c := kR_at) (by decide) 0
                  have c145 := ii_kR_at hσ_170 0
                  have c146 := ii_kR_size hσ_180 0
                  have c147 := FR_at flσ_180 (c := kR_size) (by decide) 0
                  have c148 := ii_kR_size hσ_178 0
                  have c149 := FR_at flσ_178 (c := kR_size) (by decide) 0
                  have c150 := ii_kR_size hσ_170 0
                  have c151 := FR_at frσ_170 (c := kR_size) (by decide) 0
                  refine wp_if (fun c140 => ?_) (fun c140 => ?_)
                  · try simp (disch := omega) only [w32_of, w64_of, w8_of, decide_eq_true_eq, decide_eq_false_iff_not, Bool.not_eq_true, fR_there] at c140
                    refine wp_bd (v_whole (σ := σ_180) (from_0 := (σ_180 kR_at 0)) (n_0 := 4) hσ_180 (by (try dsimp only) <;> first | assumption | omega | ((try simp (disch := omega) only [w32_of, w64_of, w8_of]) <;> first | assumption | omega | (split <;> omega) | (refine And.intro ?_ ?_ <;> split <;> omega)) | omega) (by (try dsimp only) <;> first | assumption | omega | ((try simp (disch := omega) only [w32_of, w64_of, w8_of]) <;> first | assumption | omega | (split <;> omega) | (refine And.intro ?_ ?_ <;> split <;> omega)) | omega) (by (try dsimp only) <;> first | assumption | omega | ((try simp (disch := omega) only [w32_of, w64_of, w8_of]) <;> first | assumption | omega | (split <;> omega) | (refine And.intro ?_ ?_ <;> split <;> omega)) | omega) (by (try dsimp only) <;> first | assumption | omega | ((try simp (disch := omega) only [w32_of, w64_of, w8_of]) <;> first | assumption | omega | (split <;> omega) | (refine And.intro ?_ ?_ <;> split <;> omega)) | omega)) ?_
                    rintro x_189 - gw
                    try simp (disch := omega) only [w32_of, w64_of, w8_of] at gw
                    refine wp_wfI hσ_180 b_kR_at (by (try dsimp only) <;> first | assumption | omega | ((try simp (disch := omega) only [w32_of, w64_of, w8_of]) <;> first | assumption | omega | (split <;> omega) | (refine And.intro ?_ ?_ <;> split <;> omega)) | omega) (fun σ_190 hσ_190 eσ_190 => ?_)
                    try simp (disch := omega) only [w32_of, w64_of, w8_of] at eσ_190
                    have flσ_190 := FR_sg eσ_190
                    have frσ_190 : FR [kR_at, kR_bigFirst, kR_faultKind, kR_faultPlace, kR_left, kR_levels, kR_open, kR_partKind, kR_plan, kR_planMany, kR_pointMany, kR_value, kR_xs, kR_ys] σ σ_190 := FR_tr frσ_180 flσ_190 (by decide) (by decide)
                    have nfσ_190 : NF σ σ_190 := NF_fr nfσ_180 flσ_190 (by decide)
                    have c152 := w32_rng (65536 + (x_181 - 1))
                    refine wp_waN hσ_190 b_kR_plan (by (try dsimp only) <;> first | assumption | omega | ((try simp (disch := omega) only [w32_of, w64_of, w8_of]) <;> first | assumption | omega | (split <;> omega) | (refine And.intro ?_ ?_ <;> split <;> omega)) | omega) (by (try dsimp only) <;> first | assumption | omega | ((try simp (disch := omega) only [w32_of, w64_of, w8_of]) <;> first | assumption | omega | (split <;> omega) | (refine And.intro ?_ ?_ <;> split <;> omega)) | omega) (fun σ_191 hσ_191 eσ_191 => ?_)
                    try simp (disch := omega) only [w32_of, w64_of, w8_of] at eσ_191
                    have flσ_191 := FR_sg eσ_191
                    have frσ_191 : FR [kR_at, kR_bigFirst, kR_faultKind, kR_faultPlace, kR_left, kR_levels, kR_open, kR_partKind, kR_plan, kR_planMany, kR_pointMany, kR_value, kR_xs, kR_ys] σ σ_191 := FR_tr frσ_190 flσ_191 (by decide) (by decide)
                    have nfσ_191 : NF σ σ_191 := NF_tr nfσ_190 (NF_plan eσ_191 (by (try dsimp only) <;> first | assumption | omega | ((try simp (disch := omega) only [w32_of, w64_of, w8_of]) <;> first | assumption | omega | (split <;> omega) | (refine And.intro ?_ ?_ <;> split <;> omega)) | omega))
                    have z4 : 65536 + (x_181 - 1) = 65536 + σ kR_planMany 32 + 1 := by omega
                    rw [z4] at eσ_191
                    have uk : σ_191 kR_plan (65536 + σ kR_planMany 32) = kind_9 := by rw [eσ_191, sg_ni (by omega), eσ_190, sg_nc (by decide)]; exact tk
                    have un : σ_191 kR_plan (65536 + σ kR_planMany 32 + 1) = x_189 := by rw [eσ_191, sg_at]
                    have ub : ∀ i, i < 65536 + σ kR_planMany 32 → σ_191 kR_plan i = σ kR_plan i := fun i hi => by rw [eσ_191, sg_ni (by omega), eσ_190, sg_nc (by decide)]; exact tb i hi
                    have um : σ_191 kR_planMany 32 = σ kR_planMany 32 + 2 := by rw [eσ_191, sg_nc (by decide), eσ_190, sg_nc (by decide)]; exact m180
                    have uq : σ_191 kR_pointMany 32 = σ kR_pointMany 32 := by rw [eσ_191, sg_nc (by decide), eσ_190, sg_nc (by decide)]; exact q180
                    have ulev : ∀ c, (c = kR_levels ∨ c = kR_open ∨ c = kR_left ∨ c = kR_partKind) → ∀ i, σ_191 c i = σ c i := fun c hc i => by
                      rcases hc with rfl | rfl | rfl | rfl <;> rw [eσ_191, sg_nc (by decide), eσ_190, sg_nc (by decide)]
                      · exact lev _ (Or.inl rfl) i
                      · exact lev _ (Or.inr (Or.inl rfl)) i
                      · exact lev _ (Or.inr (Or.inr (Or.inl rfl))) i
                      · exact lev _ (Or.inr (Or.inr (Or.inr rfl))) i
                    have ul0 := ulev kR_levels (Or.inl rfl) 0
                    have uo0 := ulev kR_open (Or.inr (Or.inl rfl)) 0
                    refine wp_if (fun c153 => ?_) (fun c153 => ?_)
                    · try simp (disch := omega) only [w32_of, w64_of, w8_of, decide_eq_true_eq, decide_eq_false_iff_not, Bool.not_eq_true] at c153
                      have c154 := ii_kR_at hσ_191 0
                      have c155 := FR_at flσ_191 (c := kR_at) (by decide) 0
                      have c156 := ii_kR_at hσ_190 0
                      have c157 := sg_val eσ_190
                      have c158 := ii_kR_size hσ_191 0
                      have c159 := FR_at flσ_191 (c := kR_size) (by decide) 0
                      have c160 := ii_kR_size hσ_190 0
                      have c161 := FR_at flσ_190 (c := kR_size) (by decide) 0
                      refine wp_bd (v_rowOfBytes (σ := σ_191) (count_0 := x_189) hσ_191 (by (try dsimp only) <;> first | assumption | omega | ((try simp (disch := omega) only [w32_of, w64_of, w8_of]) <;> first | assumption | omega | (split <;> omega) | (refine And.intro ?_ ?_ <;> split <;> omega)) | omega) (by (try dsimp only) <;> first | assumption | omega | ((try simp (disch := omega) only [w32_of, w64_of, w8_of]) <;> first | assumption | omega | (split <;> omega) | (refine And.intro ?_ ?_ <;> split <;> omega)) | omega) (by (try dsimp only) <;> first | assumption | omega | ((try simp (disch := omega) only [w32_of, w64_of, w8_of]) <;> first | assumption | omega | (split <;> omega) | (refine And.intro ?_ ?_ <;> split <;> omega)) | omega)) ?_
                      rintro ⟨x_196, σ_195⟩ - y162
                      try dsimp only at y162 ⊢
                      obtain ⟨hσ_195, flσ_195, ngσ_195, gr1, gr2, gr3⟩ := y162
                      have frσ_195 : FR [kR_at, kR_bigFirst, kR_faultKind, kR_faultPlace, kR_left, kR_levels, kR_open, kR_partKind, kR_plan, kR_planMany, kR_pointMany, kR_value, kR_xs, kR_ys] σ σ_195 := FR_tr frσ_191 flσ_195 (by decide) (by decide)
                      have nfσ_195 : NF σ σ_195 := NF_tr nfσ_191 ngσ_195
                      have c163 := ii_kR_at hσ_195 0
                      try simp (disch := omega) only [w32_of, w64_of, w8_of] at gr1
                      try simp (disch := omega) only [w32_of, w64_of, w8_of] at gr2
                      have c164 := ii_kR_pointMany hσ_195 32
                      have c165 := ii_kR_pointMany hσ_191 32
                      have c166 := FR_at flσ_191 (c := kR_pointMany) (by decide) 32
                      have c167 := ii_kR_pointMany hσ_190 32
                      have c168 := FR_at flσ_190 (c := kR_pointMany) (by decide) 32
                      have c169 := ii_kR_pointMany hσ_180 32
                      have c170 := FR_at flσ_180 (c := kR_pointMany) (by decide) 32
                      have c171 := ii_kR_pointMany hσ_178 32
                      have c172 := FR_at flσ_178 (c := kR_pointMany) (by decide) 32
                      have c173 := ii_kR_pointMany hσ_170 32
                      try simp (disch := omega) only [w32_of, w64_of, w8_of] at gr3
                      have lvk : σ_195 kR_levels 0 = σ kR_levels 0 := by rw [FR_at flσ_195 (c := kR_levels) (by decide)]; exact ul0
                      have bq9 := ii_kR_pointMany hσ_195 32
                      have bq8 := ii_kR_pointMany hσ 32
                      have sbk : (x_196 = true) → SBk σ σ_195 wanted_0 := fun q => by
                        have g3 := gr3 q
                        refine Or.inl ⟨lvk, by rw [FR_at flσ_195 (c := kR_open) (by decide)]; exact uo0, fun j => by rw [FR_at flσ_195 (c := kR_left) (by decide)]; exact ulev _ (Or.inr (Or.inr (Or.inl rfl))) j, fun j => by rw [FR_at flσ_195 (c := kR_partKind) (by decide)]; exact ulev _ (Or.inr (Or.inr (Or.inr rfl))) j, 2, by omega, by omega, fun w => by omega, ?_⟩
                        exact EN_two (n := x_189) (by omega) (by rw [FR_at flσ_195 (c := kR_plan) (by decide), uk]; omega) (by rw [FR_at flσ_195 (c := kR_plan) (by decide)]; exact un) (by omega) (fun _ => by omega) (by rw [FR_at flσ_195 (c := kR_planMany) (by decide), um]; omega) (by omega) (fun i hi => by rw [FR_at flσ_195 (c := kR_plan) (by decide)]; exact ub i hi)
                      have c174 := ii_kR_levels hσ_195 0
                      have c175 := FR_at flσ_195 (c := kR_levels) (by decide) 0
                      have c176 := ii_kR_levels hσ_191 0
                      have c177 := FR_at flσ_191 (c := kR_levels) (by decide) 0
                      have c178 := ii_kR_levels hσ_190 0
                      have c179 := FR_at flσ_190 (c := kR_levels) (by decide) 0
                      have c180 := ii_kR_levels hσ_180 0
                      have c181 := FR_at flσ_180 (c := kR_levels) (by decide) 0
                      have c182 := ii_kR_levels hσ_178 0
                      have c183 := FR_at flσ_178 (c := kR_levels) (by decide) 0
                      have c184 := ii_kR_levels hσ_170 0
                      exact wp_some ⟨hσ_195, frσ_195, nfσ_195, (by (try dsimp only) <;> first | assumption | omega | ((try simp (disch := omega) only [w32_of, w64_of, w8_of]) <;> first | assumption | omega | (split <;> omega) | (refine And.intro ?_ ?_ <;> split <;> omega)) | omega), (by (try dsimp only) <;> first | assumption | omega | ((try simp (disch := omega) only [w32_of, w64_of, w8_of]) <;> first | assumption | omega | (split <;> omega) | (refine And.intro ?_ ?_ <;> split <;> omega)) | omega), (by intro q9; have k9_0 := gr3 q9; (try dsimp only) <;> first | assumption | omega | ((try simp (disch := omega) only [w32_of, w64_of, w8_of]) <;> first | assumption | omega | (split <;> omega) | (refine And.intro ?_ ?_ <;> split <;> omega)) | omega), (by (try dsimp only) <;> (first | (intro _; exact lvk) | exact lvk9 | (intro _; omega))), (by (try dsimp only) <;> (exact sbk))⟩
                    · try simp (disch := omega) only [w32_of, w64_of, w8_of, decide_eq_true_eq, decide_eq_false_iff_not, Bool.not_eq_true] at c153
                      refine wp_bd (P := fun rr_ => II rr_.2 ∧ FR [kR_at, kR_bigFirst, kR_faultKind, kR_faultPlace, kR_left, kR_levels, kR_open, kR_partKind, kR_plan, kR_planMany, kR_pointMany, kR_value, kR_xs, kR_ys] σ rr_.2 ∧ NF σ rr_.2 ∧ (σ kR_at 0 ≤ rr_.2 kR_at 0) ∧ (rr_.2 kR_at 0 ≤ σ kR_size 0) ∧ ((rr_.1 = false) → rr_.2 kR_levels 0 = σ kR_levels 0) ∧ (σ kR_at 0 + 5 ≤ rr_.2 kR_at 0) ∧ ((rr_.1 = true) → SBk σ rr_.2 wanted_0)) ?_ ?_
                      · refine wp_if (fun c185 => ?_) (fun c185 => ?_)
                        · try simp (disch := omega) only [w32_of, w64_of, w8_of, decide_eq_true_eq, decide_eq_false_iff_not, Bool.not_eq_true] at c185
                          have c186 := ii_kR_at hσ_191 0
                          have c187 := FR_at flσ_191 (c := kR_at) (by decide) 0
                          have c188 := ii_kR_at hσ_190 0
                          have c189 := sg_val eσ_190
                          have c190 := ii_kR_size hσ_191 0
                          have c191 := FR_at flσ_191 (c := kR_size) (by decide) 0
                          have c192 := ii_kR_size hσ_190 0
                          have c193 := FR_at flσ_190 (c := kR_size) (by decide) 0
                          refine wp_bd (v_ringsOfBytes (σ := σ_191) (count_0 := x_189) hσ_191 (by (try dsimp only) <;> first | assumption | omega | ((try simp (disch := omega) only [w32_of, w64_of, w8_of]) <;> first | assumption | omega | (split <;> omega) | (refine And.intro ?_ ?_ <;> split <;> omega)) | omega) (by (try dsimp only) <;> first | assumption | omega | ((try simp (disch := omega) only [w32_of, w64_of, w8_of]) <;> first | assumption | omega | (split <;> omega) | (refine And.intro ?_ ?_ <;> split <;> omega)) | omega) (by (try dsimp only) <;> first | assumption | omega | ((try simp (disch := omega) only [w32_of, w64_of, w8_of]) <;> first | assumption | omega | (split <;> omega) | (refine And.intro ?_ ?_ <;> split <;> omega)) | omega)) ?_
                          rintro ⟨x_206, σ_205⟩ - y194
                          try dsimp only at y194 ⊢
                          obtain ⟨hσ_205, flσ_205, ngσ_205, gg1, gg2, gg3, gg4, gg5, gg6⟩ := y194
                          have frσ_205 : FR [kR_at, kR_bigFirst, kR_faultKind, kR_faultPlace, kR_left, kR_levels, kR_open, kR_partKind, kR_plan, kR_planMany, kR_pointMany, kR_value, kR_xs, kR_ys] σ σ_205 := FR_tr frσ_191 flσ_205 (by decide) (by decide)
                          have nfσ_205 : NF σ σ_205 := NF_tr nfσ_191 ngσ_205
                          have c195 := ii_kR_at hσ_205 0
                          try simp (disch := omega) only [w32_of, w64_of, w8_of] at gg1
                          try simp (disch := omega) only [w32_of, w64_of, w8_of] at gg2
                          have c196 := ii_kR_planMany hσ_205 32
                          have c197 := ii_kR_planMany hσ_191 32
                          have c198 := FR_at flσ_191 (c := kR_planMany) (by decide) 32
                          have c199 := ii_kR_planMany hσ_190 32
                          have c200 := FR_at flσ_190 (c := kR_planMany) (by decide) 32
                          try simp (disch := omega) only [w32_of, w64_of, w8_of] at gg3
                          try simp (disch := omega) only [w32_of, w64_of, w8_of] at gg4
                          have c201 := ii_kR_pointMany hσ_205 32
                          have c202 := ii_kR_pointMany hσ_191 32
                          have c203 := FR_at flσ_191 (c := kR_pointMany) (by decide) 32
                          have c204 := ii_kR_pointMany hσ_190 32
                          have c205 := FR_at flσ_190 (c := kR_pointMany) (by decide) 32
                          have c206 := ii_kR_pointMany hσ_180 32
                          have c207 := FR_at flσ_180 (c := kR_pointMany) (by decide) 32
                          have c208 := ii_kR_pointMany hσ_178 32
                          have c209 := FR_at flσ_178 (c := kR_pointMany) (by decide) 32
                          have c210 := ii_kR_pointMany hσ_170 32
                          try simp (disch := omega) only [w32_of, w64_of, w8_of] at gg5
                          try simp (disch := omega) only [w32_of, w64_of, w8_of] at gg6
                          have lv3 : (x_206 = false) → σ_205 kR_levels 0 = σ kR_levels 0 := fun _ => by rw [FR_at flσ_205 (c := kR_levels) (by decide)]; exact ul0
                          have bq9 := ii_kR_planMany hσ_205 32
                          have ez : 65536 + σ_191 kR_planMany 32 = 65536 + σ kR_planMany 32 + 1 + 1 := by omega
                          rw [ez] at gg4 gg5 gg6
                          have sb3 : (x_206 = true) → SBk σ σ_205 wanted_0 := fun q => by
                            have g3 := gg3 q
                            have g4 := gg4 q
                            have g5 := gg5 q
                            have gn := (gg6 (65536 + σ kR_planMany 32 + 1) (by omega)).trans un
                            have gk3 := (gg6 (65536 + σ kR_planMany 32) (by omega)).trans uk
                            refine Or.inl ⟨by rw [FR_at flσ_205 (c := kR_levels) (by decide)]; exact ul0, by rw [FR_at flσ_205 (c := kR_open) (by decide)]; exact uo0, fun j => by rw [FR_at flσ_205 (c := kR_left) (by decide)]; exact ulev _ (Or.inr (Or.inr (Or.inl rfl))) j, fun j => by rw [FR_at flσ_205 (c := kR_partKind) (by decide)]; exact ulev _ (Or.inr (Or.inr (Or.inr rfl))) j, 3, by omega, by omega, fun w => by omega, ?_⟩
                            have en := EN_rings (σ := σ_191) (τ := σ_205) (p := 65536 + σ kR_planMany 32) ⟨by omega, by omega⟩ (by rw [gk3]; omega) (by omega) ⟨by rw [gn]; omega, by rw [gn]; exact g3, fun k a b => g4 k a (by rw [gn] at b; exact b), by rw [gn]; exact g5, fun i hi => gg6 i (by omega)⟩
                            exact EN_base en uq ub
                          have c211 := ii_kR_levels hσ_205 0
                          have c212 := FR_at flσ_205 (c := kR_levels) (by decide) 0
                          have c213 := ii_kR_levels hσ_191 0
                          have c214 := FR_at flσ_191 (c := kR_levels) (by decide) 0
                          have c215 := ii_kR_levels hσ_190 0
                          have c216 := FR_at flσ_190 (c := kR_levels) (by decide) 0
                          have c217 := ii_kR_levels hσ_180 0
                          have c218 := FR_at flσ_180 (c := kR_levels) (by decide) 0
                          have c219 := ii_kR_levels hσ_178 0
                          have c220 := FR_at flσ_178 (c := kR_levels) (by decide) 0
                          have c221 := ii_kR_levels hσ_170 0
                          exact wp_some ⟨hσ_205, frσ_205, nfσ_205, (by (try dsimp only) <;> first | assumption | omega | ((try simp (disch := omega) only [w32_of, w64_of, w8_of]) <;> first | assumption | omega | (split <;> omega) | (refine And.intro ?_ ?_ <;> split <;> omega)) | omega), (by (try dsimp only) <;> first | assumption | omega | ((try simp (disch := omega) only [w32_of, w64_of, w8_of]) <;> first | assumption | omega | (split <;> omega) | (refine And.intro ?_ ?_ <;> split <;> omega)) | omega), (by (try dsimp only) <;> (first | exact lv3 | exact lv4)), (by (try dsimp only) <;> first | assumption | omega | ((try simp (disch := omega) only [w32_of, w64_of, w8_of]) <;> first | assumption | omega | (split <;> omega) | (refine And.intro ?_ ?_ <;> split <;> omega)) | omega), (by (try dsimp only) <;> (first | exact sb3 | exact sb4))⟩
                        · try simp (disch := omega) only [w32_of, w64_of, w8_of, decide_eq_true_eq, decide_eq_false_iff_not, Bool.not_eq_true] at c185
                          have c222 := ii_kR_levels hσ_191 0
                          have c223 := FR_at flσ_191 (c := kR_levels) (by decide) 0
                          have c224 := ii_kR_levels hσ_190 0
                          have c225 := FR_at flσ_190 (c := kR_levels) (by decide) 0
                          have c226 := ii_kR_levels hσ_180 0
                          have c227 := FR_at flσ_180 (c := kR_levels) (by decide) 0
                          have c228 := ii_kR_levels hσ_178 0
                          have c229 := FR_at flσ_178 (c := kR_levels) (by decide) 0
                          have c230 := ii_kR_levels hσ_170 0
                          have c231 := ii_kR_open hσ_191 0
                          have c232 := FR_at flσ_191 (c := kR_open) (by decide) 0
                          have c233 := ii_kR_open hσ_190 0
                          have c234 := FR_at flσ_190 (c := kR_open) (by decide) 0
                          have c235 := ii_kR_open hσ_180 0
                          have c236 := FR_at flσ_180 (c := kR_open) (by decide) 0
                          have c237 := ii_kR_open hσ_178 0
                          have c238 := FR_at flσ_178 (c := kR_open) (by decide) 0
                          have c239 := ii_kR_open hσ_170 0
                          refine wp_bd (v_partsOfBytes (σ := σ_191) (kind_0 := (q_lrm (q_lan x_147 536870911) 1000)) (count_0 := x_189) hσ_191 (by (try dsimp only) <;> first | assumption | omega | ((try simp (disch := omega) only [w32_of, w64_of, w8_of]) <;> first | assumption | omega | (split <;> omega) | (refine And.intro ?_ ?_ <;> split <;> omega)) | omega) (by (try dsimp only) <;> first | assumption | omega | ((try simp (disch := omega) only [w32_of, w64_of, w8_of]) <;> first | assumption | omega | (split <;> omega) | (refine And.intro ?_ ?_ <;> split <;> omega)) | omega) (by (try dsimp only) <;> first | assumption | omega | ((try simp (disch := omega) only [w32_of, w64_of, w8_of]) <;> first | assumption | omega | (split <;> omega) | (refine And.intro ?_ ?_ <;> split <;> omega)) | omega) (by (try dsimp only) <;> first | assumption | omega | ((try simp (disch := omega) only [w32_of, w64_of, w8_of]) <;> first | assumption | omega | (split <;> omega) | (refine And.intro ?_ ?_ <;> split <;> omega)) | omega) (by (try dsimp only) <;> first | assumption | omega | ((try simp (disch := omega) only [w32_of, w64_of, w8_of]) <;> first | assumption | omega | (split <;> omega) | (refine And.intro ?_ ?_ <;> split <;> omega)) | omega) (by (try dsimp only) <;> first | assumption | omega | ((try simp (disch := omega) only [w32_of, w64_of, w8_of]) <;> first | assumption | omega | (split <;> omega) | (refine And.intro ?_ ?_ <;> split <;> omega)) | omega)) ?_
                          rintro ⟨x_210, σ_209⟩ - y240
                          try dsimp only at y240 ⊢
                          obtain ⟨hσ_209, flσ_209, ngσ_209, gq0, gq1, gq2, gq3, gq4⟩ := y240
                          have frσ_209 : FR [kR_at, kR_bigFirst, kR_faultKind, kR_faultPlace, kR_left, kR_levels, kR_open, kR_partKind, kR_plan, kR_planMany, kR_pointMany, kR_value, kR_xs, kR_ys] σ σ_209 := FR_tr frσ_191 flσ_209 (by decide) (by decide)
                          have nfσ_209 : NF σ σ_209 := NF_tr nfσ_191 ngσ_209
                          try simp (disch := omega) only [w32_of, w64_of, w8_of] at gq0
                          have c241 := ii_kR_levels hσ_209 0
                          try simp (disch := omega) only [w32_of, w64_of, w8_of] at gq1
                          try simp (disch := omega) only [w32_of, w64_of, w8_of] at gq2
                          have c242 := ii_kR_left hσ_209 (σ_191 kR_levels 0)
                          try simp (disch := omega) only [w32_of, w64_of, w8_of] at gq3
                          have c243 := ii_kR_partKind hσ_209 (σ_191 kR_levels 0)
                          have c244 := ii_kR_open hσ_209 0
                          try simp (disch := omega) only [w32_of, w64_of, w8_of] at gq4
                          have lv4 : (x_210 = false) → σ_209 kR_levels 0 = σ kR_levels 0 := fun q => absurd (gq0.symm.trans q) (by decide)
                          have sb4 : (x_210 = true) → SBk σ σ_209 wanted_0 := fun q => by
                            rw [ul0] at gq1 gq2 gq3 gq4
                            rw [uo0] at gq4
                            have fp : ∀ i, σ_209 kR_plan i = σ_191 kR_plan i := FR_at flσ_209 (c := kR_plan) (by decide)
                            refine Or.inr ⟨by omega, gq1, fun j hj => ⟨((gq2 j hj).1).trans (ulev _ (Or.inr (Or.inr (Or.inl rfl))) j), ((gq2 j hj).2).trans (ulev _ (Or.inr (Or.inr (Or.inr rfl))) j)⟩, by rw [FR_at flσ_209 (c := kR_planMany) (by decide)]; exact um, by rw [FR_at flσ_209 (c := kR_pointMany) (by decide)]; exact uq, ⟨by rw [fp, un, gq3], by rw [gq3]; omega⟩, fun i hi => by rw [fp]; exact ub i hi, ?_⟩
                            rw [fp, uk]
                            rcases gq4 with ⟨y1, y2, y3⟩ | ⟨y1, y2, y3⟩
                            · exact Or.inl ⟨by omega, y2, y3, by omega⟩
                            · exact Or.inr ⟨by omega, by omega, by omega, y3⟩
                          have c245 := ii_kR_at hσ_209 0
                          have c246 := FR_at flσ_209 (c := kR_at) (by decide) 0
                          have c247 := ii_kR_at hσ_191 0
                          have c248 := FR_at flσ_191 (c := kR_at) (by decide) 0
                          have c249 := ii_kR_at hσ_190 0
                          have c250 := sg_val eσ_190
                          exact wp_some ⟨hσ_209, frσ_209, nfσ_209, (by (try dsimp only) <;> first | assumption | omega | ((try simp (disch := omega) only [w32_of, w64_of, w8_of]) <;> first | assumption | omega | (split <;> omega) | (refine And.intro ?_ ?_ <;> split <;> omega)) | omega), (by (try dsimp only) <;> first | assumption | omega | ((try simp (disch := omega) only [w32_of, w64_of, w8_of]) <;> first | assumption | omega | (split <;> omega) | (refine And.intro ?_ ?_ <;> split <;> omega)) | omega), (fun q => absurd (q.symm.trans gq0) (by decide)), (by (try dsimp only) <;> first | assumption | omega | ((try simp (disch := omega) only [w32_of, w64_of, w8_of]) <;> first | assumption | omega | (split <;> omega) | (refine And.intro ?_ ?_ <;> split <;> omega)) | omega), (by (try dsimp only) <;> (first | exact sb3 | exact sb4))⟩
                      rintro ⟨x_212, σ_213⟩ _ y254
                      try dsimp only at y254 ⊢
                      obtain ⟨hσ_213, frσ_213, nfσ_213, g251, g252, lv5, g253, sb5⟩ := y254
                      have lvk9 : (x_212 = false) → σ_213 kR_levels 0 = σ kR_levels 0 := lv5
                      have sbk := sb5
                      have c255 := ii_kR_at hσ_213 0
                      have c256 := ii_kR_levels hσ_213 0
                      exact wp_some ⟨hσ_213, frσ_213, nfσ_213, (by (try dsimp only) <;> first | assumption | omega | ((try simp (disch := omega) only [w32_of, w64_of, w8_of]) <;> first | assumption | omega | (split <;> omega) | (refine And.intro ?_ ?_ <;> split <;> omega)) | omega), (by (try dsimp only) <;> first | assumption | omega | ((try simp (disch := omega) only [w32_of, w64_of, w8_of]) <;> first | assumption | omega | (split <;> omega) | (refine And.intro ?_ ?_ <;> split <;> omega)) | omega), (by intro q9; have k9_0 := sb5 q9; (try dsimp only) <;> first | assumption | omega | ((try simp (disch := omega) only [w32_of, w64_of, w8_of]) <;> first | assumption | omega | (split <;> omega) | (refine And.intro ?_ ?_ <;> split <;> omega)) | omega), (by (try dsimp only) <;> (first | (intro _; exact lvk) | exact lvk9 | (intro _; omega))), (by (try dsimp only) <;> (exact sbk))⟩
                  · try simp (disch := omega) only [w32_of, w64_of, w8_of, decide_eq_true_eq, decide_eq_false_iff_not, Bool.not_eq_true, fR_there] at c140
                    refine wp_bd (v_wrong (σ := σ_180) (kind_0 := 3) (where_0 := (σ_180 kR_at 0)) hσ_180 (by (try dsimp only) <;> first | assumption | omega | ((try simp (disch := omega) only [w32_of, w64_of, w8_of]) <;> first | assumption | omega | (split <;> omega) | (refine And.intro ?_ ?_ <;> split <;> omega)) | omega) (by (try dsimp only) <;> first | assumption | omega | ((try simp (disch := omega) only [w32_of, w64_of, w8_of]) <;> first | assumption | omega | (split <;> omega) | (refine And.intro ?_ ?_ <;> split <;> omega)) | omega)) ?_
                    rintro ⟨x_220, σ_219⟩ - y258
                    try dsimp only at y258 ⊢
                    obtain ⟨hσ_219, flσ_219, g257⟩ := y258
                    have frσ_219 : FR [kR_at, kR_bigFirst, kR_faultKind, kR_faultPlace, kR_left, kR_levels, kR_open, kR_partKind, kR_plan, kR_planMany, kR_pointMany, kR_value, kR_xs, kR_ys] σ σ_219 := FR_tr frσ_180 flσ_219 (by decide) (by decide)
                    have nfσ_219 : NF σ σ_219 := NF_fr nfσ_180 flσ_219 (by decide)
                    try simp (disch := omega) only [w32_of, w64_of, w8_of] at g257
                    have lvk : σ_219 kR_levels 0 = σ kR_levels 0 := by rw [FR_at flσ_219 (c := kR_levels) (by decide)]; exact lev _ (Or.inl rfl) 0
                    have c259 := ii_kR_at hσ_219 0
                    have c260 := FR_at flσ_219 (c := kR_at) (by decide) 0
                    have c261 := ii_kR_levels hσ_219 0
                    have c262 := FR_at flσ_219 (c := kR_levels) (by decide) 0
                    have c263 := ii_kR_levels hσ_180 0
                    have c264 := FR_at flσ_180 (c := kR_levels) (by decide) 0
                    have c265 := ii_kR_levels hσ_178 0
                    have c266 := FR_at flσ_178 (c := kR_levels) (by decide) 0
                    have c267 := ii_kR_levels hσ_170 0
                    exact wp_some ⟨hσ_219, frσ_219, nfσ_219, (by (try dsimp only) <;> first | assumption | omega | ((try simp (disch := omega) only [w32_of, w64_of, w8_of]) <;> first | assumption | omega | (split <;> omega) | (refine And.intro ?_ ?_ <;> split <;> omega)) | omega), (by (try dsimp only) <;> first | assumption | omega | ((try simp (disch := omega) only [w32_of, w64_of, w8_of]) <;> first | assumption | omega | (split <;> omega) | (refine And.intro ?_ ?_ <;> split <;> omega)) | omega), (fun q => absurd (q.symm.trans g257) (by decide)), (by (try dsimp only) <;> (first | (intro _; exact lvk) | exact lvk9 | (intro _; omega))), (fun q => absurd (q.symm.trans g257) (by decide))⟩
        · have hk := c42
          try simp (disch := omega) only [w32_of, w64_of, w8_of, decide_eq_true_eq, decide_eq_false_iff_not, Bool.not_eq_true] at c42
          refine wp_bd (v_wrong (σ := σ_144) (kind_0 := 2) (where_0 := (σ_144 kR_at 0)) hσ_144 (by (try dsimp only) <;> first | assumption | omega | ((try simp (disch := omega) only [w32_of, w64_of, w8_of]) <;> first | assumption | omega | (split <;> omega) | (refine And.intro ?_ ?_ <;> split <;> omega)) | omega) (by (try dsimp only) <;> first | assumption | omega | ((try simp (disch := omega) only [w32_of, w64_of, w8_of]) <;> first | assumption | omega | (split <;> omega) | (refine And.intro ?_ ?_ <;> split <;> omega)) | omega)) ?_
          rintro ⟨x_238, σ_237⟩ - y269
          try dsimp only at y269 ⊢
          obtain ⟨hσ_237, flσ_237, g268⟩ := y269
          have frσ_237 : FR [kR_at, kR_bigFirst, kR_faultKind, kR_faultPlace, kR_left, kR_levels, kR_open, kR_partKind, kR_plan, kR_planMany, kR_pointMany, kR_value, kR_xs, kR_ys] σ σ_237 := FR_tr frσ_144 flσ_237 (by decide) (by decide)
          have nfσ_237 : NF σ σ_237 := NF_fr nfσ_144 flσ_237 (by decide)
          try simp (disch := omega) only [w32_of, w64_of, w8_of] at g268
          have c270 := ii_kR_at hσ_237 0
          have c271 := FR_at flσ_237 (c := kR_at) (by decide) 0
          have c272 := ii_kR_levels hσ_237 0
          have c273 := FR_at flσ_237 (c := kR_levels) (by decide) 0
          have c274 := ii_kR_levels hσ_144 0
          have c275 := FR_at flσ_144 (c := kR_levels) (by decide) 0
          have c276 := ii_kR_levels hσ_143 0
          have c277 := FR_at flσ_143 (c := kR_levels) (by decide) 0
          exact wp_some ⟨hσ_237, frσ_237, nfσ_237, (by (try dsimp only) <;> first | assumption | omega | ((try simp (disch := omega) only [w32_of, w64_of, w8_of]) <;> first | assumption | omega | (split <;> omega) | (refine And.intro ?_ ?_ <;> split <;> omega)) | omega), (by (try dsimp only) <;> first | assumption | omega | ((try simp (disch := omega) only [w32_of, w64_of, w8_of]) <;> first | assumption | omega | (split <;> omega) | (refine And.intro ?_ ?_ <;> split <;> omega)) | omega), (fun q => absurd (q.symm.trans g268) (by decide)), (by (try dsimp only) <;> (first | (intro _; exact lvk) | exact lvk9 | (intro _; omega))), (fun q => absurd (q.symm.trans g268) (by decide))⟩
      · try simp (disch := omega) only [w32_of, w64_of, w8_of, decide_eq_true_eq, decide_eq_false_iff_not, Bool.not_eq_true, fR_there] at c30
        refine wp_bd (v_wrong (σ := σ_144) (kind_0 := 3) (where_0 := (σ_144 kR_at 0)) hσ_144 (by (try dsimp only) <;> first | assumption | omega | ((try simp (disch := omega) only [w32_of, w64_of, w8_of]) <;> first | assumption | omega | (split <;> omega) | (refine And.intro ?_ ?_ <;> split <;> omega)) | omega) (by (try dsimp only) <;> first | assumption | omega | ((try simp (disch := omega) only [w32_of, w64_of, w8_of]) <;> first | assumption | omega | (split <;> omega) | (refine And.intro ?_ ?_ <;> split <;> omega)) | omega)) ?_
        rintro ⟨x_245, σ_244⟩ - y279
        try dsimp only at y279 ⊢
        obtain ⟨hσ_244, flσ_244, g278⟩ := y279
        have frσ_244 : FR [kR_at, kR_bigFirst, kR_faultKind, kR_faultPlace, kR_left, kR_levels, kR_open, kR_partKind, kR_plan, kR_planMany, kR_pointMany, kR_value, kR_xs, kR_ys] σ σ_244 := FR_tr frσ_144 flσ_244 (by decide) (by decide)
        have nfσ_244 : NF σ σ_244 := NF_fr nfσ_144 flσ_244 (by decide)
        try simp (disch := omega) only [w32_of, w64_of, w8_of] at g278
        have c280 := ii_kR_at hσ_244 0
        have c281 := FR_at flσ_244 (c := kR_at) (by decide) 0
        have c282 := ii_kR_levels hσ_244 0
        have c283 := FR_at flσ_244 (c := kR_levels) (by decide) 0
        have c284 := ii_kR_levels hσ_144 0
        have c285 := FR_at flσ_144 (c := kR_levels) (by decide) 0
        have c286 := ii_kR_levels hσ_143 0
        have c287 := FR_at flσ_143 (c := kR_levels) (by decide) 0
        exact wp_some ⟨hσ_244, frσ_244, nfσ_244, (by (try dsimp only) <;> first | assumption | omega | ((try simp (disch := omega) only [w32_of, w64_of, w8_of]) <;> first | assumption | omega | (split <;> omega) | (refine And.intro ?_ ?_ <;> split <;> omega)) | omega), (by (try dsimp only) <;> first | assumption | omega | ((try simp (disch := omega) only [w32_of, w64_of, w8_of]) <;> first | assumption | omega | (split <;> omega) | (refine And.intro ?_ ?_ <;> split <;> omega)) | omega), (fun q => absurd (q.symm.trans g278) (by decide)), (by (try dsimp only) <;> (first | (intro _; exact lvk) | exact lvk9 | (intro _; omega))), (fun q => absurd (q.symm.trans g278) (by decide))⟩
  · try simp (disch := omega) only [w32_of, w64_of, w8_of, decide_eq_true_eq, decide_eq_false_iff_not, Bool.not_eq_true, fR_there] at c4
    refine wp_bd (v_wrong (σ := σ) (kind_0 := 3) (where_0 := (σ kR_at 0)) hσ (by (try dsimp only) <;> first | assumption | omega | ((try simp (disch := omega) only [w32_of, w64_of, w8_of]) <;> first | assumption | omega | (split <;> omega) | (refine And.intro ?_ ?_ <;> split <;> omega)) | omega) (by (try dsimp only) <;> first | assumption | omega | ((try simp (disch := omega) only [w32_of, w64_of, w8_of]) <;> first | assumption | omega | (split <;> omega) | (refine And.intro ?_ ?_ <;> split <;> omega)) | omega)) ?_
    rintro ⟨x_257, σ_256⟩ - y289
    try dsimp only at y289 ⊢
    obtain ⟨hσ_256, flσ_256, g288⟩ := y289
    have frσ_256 : FR [kR_at, kR_bigFirst, kR_faultKind, kR_faultPlace, kR_left, kR_levels, kR_open, kR_partKind, kR_plan, kR_planMany, kR_pointMany, kR_value, kR_xs, kR_ys] σ σ_256 := FR_le flσ_256 (by decide)
    have nfσ_256 : NF σ σ_256 := NF_fr (NF_refl _) flσ_256 (by decide)
    try simp (disch := omega) only [w32_of, w64_of, w8_of] at g288
    have c290 := ii_kR_at hσ_256 0
    have c291 := FR_at flσ_256 (c := kR_at) (by decide) 0
    have c292 := ii_kR_levels hσ_256 0
    have c293 := FR_at flσ_256 (c := kR_levels) (by decide) 0
    exact wp_some ⟨hσ_256, frσ_256, nfσ_256, (by (try dsimp only) <;> first | assumption | omega | ((try simp (disch := omega) only [w32_of, w64_of, w8_of]) <;> first | assumption | omega | (split <;> omega) | (refine And.intro ?_ ?_ <;> split <;> omega)) | omega), (by (try dsimp only) <;> first | assumption | omega | ((try simp (disch := omega) only [w32_of, w64_of, w8_of]) <;> first | assumption | omega | (split <;> omega) | (refine And.intro ?_ ?_ <;> split <;> omega)) | omega), (fun q => absurd (q.symm.trans g288) (by decide)), (by (try dsimp only) <;> (first | (intro _; exact lvk) | exact lvk9 | (intro _; omega))), (fun q => absurd (q.symm.trans g288) (by decide))⟩
theorem v_bytes {σ : SG} (hσ : II σ) : wp_ (fR_bytes σ) (fun zz_ => II zz_.2 ∧ FR [kR_at, kR_bigFirst, kR_faultKind, kR_faultPlace, kR_left, kR_levels, kR_open, kR_partKind, kR_plan, kR_planMany, kR_pointMany, kR_value, kR_xs, kR_ys] σ zz_.2 ∧ NF σ zz_.2 ∧ ((zz_.1 = true) → SHn zz_.2)) := by
  unfold fR_bytes
  have hsz := ii_kR_size hσ 0
  refine wp_wfI hσ b_kR_at (by (try dsimp only) <;> first | assumption | omega | ((try simp (disch := omega) only [w32_of, w64_of, w8_of]) <;> first | assumption | omega | (split <;> omega) | (refine And.intro ?_ ?_ <;> split <;> omega)) | omega) (fun σ_1 hσ_1 eσ_1 => ?_)
  try simp (disch := omega) only [w32_of, w64_of, w8_of] at eσ_1
  have flσ_1 := FR_sg eσ_1
  have frσ_1 : FR [kR_at, kR_bigFirst, kR_faultKind, kR_faultPlace, kR_left, kR_levels, kR_open, kR_partKind, kR_plan, kR_planMany, kR_pointMany, kR_value, kR_xs, kR_ys] σ σ_1 := FR_le flσ_1 (by decide)
  have nfσ_1 : NF σ σ_1 := NF_fr (NF_refl _) flσ_1 (by decide)
  refine wp_wfI hσ_1 b_kR_open (by (try dsimp only) <;> first | assumption | omega | ((try simp (disch := omega) only [w32_of, w64_of, w8_of]) <;> first | assumption | omega | (split <;> omega) | (refine And.intro ?_ ?_ <;> split <;> omega)) | omega) (fun σ_2 hσ_2 eσ_2 => ?_)
  try simp (disch := omega) only [w32_of, w64_of, w8_of] at eσ_2
  have flσ_2 := FR_sg eσ_2
  have frσ_2 : FR [kR_at, kR_bigFirst, kR_faultKind, kR_faultPlace, kR_left, kR_levels, kR_open, kR_partKind, kR_plan, kR_planMany, kR_pointMany, kR_value, kR_xs, kR_ys] σ σ_2 := FR_tr frσ_1 flσ_2 (by decide) (by decide)
  have nfσ_2 : NF σ σ_2 := NF_fr nfσ_1 flσ_2 (by decide)
  refine wp_wfI hσ_2 b_kR_levels (by (try dsimp only) <;> first | assumption | omega | ((try simp (disch := omega) only [w32_of, w64_of, w8_of]) <;> first | assumption | omega | (split <;> omega) | (refine And.intro ?_ ?_ <;> split <;> omega)) | omega) (fun σ_3 hσ_3 eσ_3 => ?_)
  try simp (disch := omega) only [w32_of, w64_of, w8_of] at eσ_3
  have flσ_3 := FR_sg eσ_3
  have frσ_3 : FR [kR_at, kR_bigFirst, kR_faultKind, kR_faultPlace, kR_left, kR_levels, kR_open, kR_partKind, kR_plan, kR_planMany, kR_pointMany, kR_value, kR_xs, kR_ys] σ σ_3 := FR_tr frσ_2 flσ_3 (by decide) (by decide)
  have nfσ_3 : NF σ σ_3 := NF_fr nfσ_2 flσ_3 (by decide)
  refine wp_bd (v_clear (σ := σ_3) (slot_0 := 32) hσ_3 (by (try dsimp only) <;> first | assumption | omega | ((try simp (disch := omega) only [w32_of, w64_of, w8_of]) <;> first | assumption | omega | (split <;> omega) | (refine And.intro ?_ ?_ <;> split <;> omega)) | omega)) ?_
  rintro σ_5 - ⟨hσ_5, flσ_5, gc1, gc2, gc3⟩
  have frσ_5 : FR [kR_at, kR_bigFirst, kR_faultKind, kR_faultPlace, kR_left, kR_levels, kR_open, kR_partKind, kR_plan, kR_planMany, kR_pointMany, kR_value, kR_xs, kR_ys] σ σ_5 := FR_tr frσ_3 flσ_5 (by decide) (by decide)
  have nfσ_5 : NF σ σ_5 := NF_tr nfσ_3 (⟨fun i _ => ⟨FR_at flσ_5 (by decide) i, FR_at flσ_5 (by decide) i, FR_at flσ_5 (by decide) i⟩, gc3⟩)
  have c1 := ii_kR_planMany hσ_5 32
  try simp (disch := omega) only [w32_of, w64_of, w8_of] at gc1
  have c2 := ii_kR_pointMany hσ_5 32
  try simp (disch := omega) only [w32_of, w64_of, w8_of] at gc2
  try simp (disch := omega) only [w32_of, w64_of, w8_of] at gc3
  have at5 : σ_5 kR_at 0 = 0 := by rw [FR_at flσ_5 (c := kR_at) (by decide), FR_at flσ_3 (c := kR_at) (by decide), FR_at flσ_2 (c := kR_at) (by decide)]; exact sg_val eσ_1
  have lv5 : σ_5 kR_levels 0 = 0 := by rw [FR_at flσ_5 (c := kR_levels) (by decide)]; exact sg_val eσ_3
  have op5 : σ_5 kR_open 0 = 0 := by rw [FR_at flσ_5 (c := kR_open) (by decide), FR_at flσ_3 (c := kR_open) (by decide)]; exact sg_val eσ_2
  have ws5 : WB σ_5 false 0 := WB_0 lv5 gc1 gc2 op5
  have c3 := ii_kR_at hσ_5 0
  have c4 := FR_at flσ_5 (c := kR_at) (by decide) 0
  have c5 := ii_kR_at hσ_3 0
  have c6 := FR_at flσ_3 (c := kR_at) (by decide) 0
  have c7 := ii_kR_at hσ_2 0
  have c8 := FR_at flσ_2 (c := kR_at) (by decide) 0
  have c9 := ii_kR_at hσ_1 0
  have c10 := sg_val eσ_1
  have c11 := ii_kR_size hσ_5 0
  have c12 := FR_at flσ_5 (c := kR_size) (by decide) 0
  have c13 := ii_kR_size hσ_3 0
  have c14 := FR_at flσ_3 (c := kR_size) (by decide) 0
  have c15 := ii_kR_size hσ_2 0
  have c16 := FR_at flσ_2 (c := kR_size) (by decide) 0
  have c17 := ii_kR_size hσ_1 0
  have c18 := FR_at flσ_1 (c := kR_size) (by decide) 0
  have c19 := ii_kR_size hσ 0
  have c20 := ii_kR_levels hσ_5 0
  have c21 := FR_at flσ_5 (c := kR_levels) (by decide) 0
  have c22 := ii_kR_levels hσ_3 0
  have c23 := sg_val eσ_3
  refine wp_bd (v_shapeOfBytes (σ := σ_5) (wanted_0 := 0) hσ_5 (by (try dsimp only) <;> first | assumption | omega | ((try simp (disch := omega) only [w32_of, w64_of, w8_of]) <;> first | assumption | omega | (split <;> omega) | (refine And.intro ?_ ?_ <;> split <;> omega)) | omega) (by (try dsimp only) <;> first | assumption | omega | ((try simp (disch := omega) only [w32_of, w64_of, w8_of]) <;> first | assumption | omega | (split <;> omega) | (refine And.intro ?_ ?_ <;> split <;> omega)) | omega) (by (try dsimp only) <;> first | assumption | omega | ((try simp (disch := omega) only [w32_of, w64_of, w8_of]) <;> first | assumption | omega | (split <;> omega) | (refine And.intro ?_ ?_ <;> split <;> omega)) | omega) (by (try dsimp only) <;> first | assumption | omega | ((try simp (disch := omega) only [w32_of, w64_of, w8_of]) <;> first | assumption | omega | (split <;> omega) | (refine And.intro ?_ ?_ <;> split <;> omega)) | omega)) ?_
  rintro ⟨x_8, σ_7⟩ - y24
  try dsimp only at y24 ⊢
  obtain ⟨hσ_7, flσ_7, ngσ_7, gs1, gs2, gs3, gs4, gs5⟩ := y24
  have frσ_7 : FR [kR_at, kR_bigFirst, kR_faultKind, kR_faultPlace, kR_left, kR_levels, kR_open, kR_partKind, kR_plan, kR_planMany, kR_pointMany, kR_value, kR_xs, kR_ys] σ σ_7 := FR_tr frσ_5 flσ_7 (by decide) (by decide)
  have nfσ_7 : NF σ σ_7 := NF_tr nfσ_5 ngσ_7
  have c25 := ii_kR_at hσ_7 0
  try simp (disch := omega) only [w32_of, w64_of, w8_of] at gs1
  try simp (disch := omega) only [w32_of, w64_of, w8_of] at gs2
  try simp (disch := omega) only [w32_of, w64_of, w8_of] at gs3
  have c26 := ii_kR_levels hσ_7 0
  try simp (disch := omega) only [w32_of, w64_of, w8_of] at gs4
  try simp (disch := omega) only [w32_of, w64_of, w8_of] at gs5
  have ws0 : (x_8 = true) → WB σ_7 true 0 := fun q => WB_go ws5 (fun z => by omega) (by omega) (by omega) (by have := gs5 q; rw [show wn_ σ_5 = 0 by unfold wn_; rw [if_neg (by omega)]]; exact this)
  refine wp_bd (P := fun rr_ => II rr_.2 ∧ FR [kR_at, kR_bigFirst, kR_faultKind, kR_faultPlace, kR_left, kR_levels, kR_open, kR_partKind, kR_plan, kR_planMany, kR_pointMany, kR_value, kR_xs, kR_ys] σ rr_.2 ∧ NF σ rr_.2 ∧ (rr_.2 kR_at 0 ≤ σ kR_size 0) ∧ (rr_.1 = true → SHn rr_.2)) ?_ ?_
  · refine wp_whl (fun ss_ => II ss_.2 ∧ FR [kR_at, kR_bigFirst, kR_faultKind, kR_faultPlace, kR_left, kR_levels, kR_open, kR_partKind, kR_plan, kR_planMany, kR_pointMany, kR_value, kR_xs, kR_ys] σ ss_.2 ∧ NF σ ss_.2 ∧ (ss_.2 kR_at 0 ≤ σ kR_size 0) ∧ (ss_.1 = true → WB ss_.2 true 0)) (fun ss_ => (4 * (65536 - ss_.2 kR_at 0) + ss_.2 kR_levels 0 + bn_ ss_.1).toNat) ⟨hσ_7, frσ_7, nfσ_7, (by (try dsimp only) <;> first | assumption | omega | ((try simp (disch := omega) only [w32_of, w64_of, w8_of]) <;> first | assumption | omega | (split <;> omega) | (refine And.intro ?_ ?_ <;> split <;> omega)) | omega), (by (try dsimp only) <;> (first | exact ws0 | exact fun _ => wsA | exact wsB))⟩ ?_
    rintro ⟨good_9, σ_10⟩ y28
    try dsimp only at y28 ⊢
    obtain ⟨hσ_10, frσ_10, nfσ_10, g27, gw1⟩ := y28
    have c29 := ii_kR_levels hσ_10 0
    have c30 := w32_rng (σ_10 kR_levels 0)
    refine wp_if (fun cc => ?_) (fun cc => ?_)
    · try simp (disch := omega) only [w32_of, w64_of, w8_of, decide_eq_true_eq, decide_eq_false_iff_not, Bool.not_eq_true] at cc
      have wp := gw1 cc.1
      have wo := ii_kR_open hσ_10 0
      have wl := WB_lv wp
      have bl := ii_kR_levels hσ_10 0
      have cc2 := cc.2
      have hgb : bn_ good_9 = 1 := bn_t cc.1
      refine wp_bdk ?_
      have c31 := w32_rng ((σ_10 kR_levels 0) - 1)
      refine wp_rdI (by (try dsimp only) <;> first | assumption | omega | ((try simp (disch := omega) only [w32_of, w64_of, w8_of]) <;> first | assumption | omega | (split <;> omega) | (refine And.intro ?_ ?_ <;> split <;> omega)) | omega) (by (try dsimp only) <;> first | assumption | omega | ((try simp (disch := omega) only [w32_of, w64_of, w8_of]) <;> first | assumption | omega | (split <;> omega) | (refine And.intro ?_ ?_ <;> split <;> omega)) | omega) (fun x_22 e_x_22 => ?_)
      have b_x_22 : (-9223372036854775808) ≤ x_22 ∧ x_22 ≤ 9223372036854775807 := by rw [e_x_22]; exact ii_kR_left hσ_10 _
      try simp (disch := omega) only [w32_of, w64_of, w8_of] at e_x_22
      have c32 := ii_kR_left hσ_10 ((σ_10 kR_levels 0) - 1)
      have c34 := w64_rng x_22
      refine wp_if (fun c33 => ?_) (fun c33 => ?_)
      · have hne := c33
        try simp (disch := omega) only [w32_of, w64_of, w8_of, decide_eq_true_eq, decide_eq_false_iff_not, Bool.not_eq_true] at c33
        refine wp_wfI hσ_10 b_kR_levels (by (try dsimp only) <;> first | assumption | omega | ((try simp (disch := omega) only [w32_of, w64_of, w8_of]) <;> first | assumption | omega | (split <;> omega) | (refine And.intro ?_ ?_ <;> split <;> omega)) | omega) (fun σ_25 hσ_25 eσ_25 => ?_)
        try simp (disch := omega) only [w32_of, w64_of, w8_of] at eσ_25
        have flσ_25 := FR_sg eσ_25
        have frσ_25 : FR [kR_at, kR_bigFirst, kR_faultKind, kR_faultPlace, kR_left, kR_levels, kR_open, kR_partKind, kR_plan, kR_planMany, kR_pointMany, kR_value, kR_xs, kR_ys] σ σ_25 := FR_tr frσ_10 flσ_25 (by decide) (by decide)
        have nfσ_25 : NF σ σ_25 := NF_fr nfσ_10 flσ_25 (by decide)
        have o25 : σ_25 kR_open 0 = σ_10 kR_open 0 := FR_at flσ_25 (c := kR_open) (by decide) 0
        have k25 : ∀ j, σ_25 kR_partKind j = σ_10 kR_partKind j := FR_at flσ_25 (c := kR_partKind) (by decide)
        have hop : σ_10 kR_partKind (σ_10 kR_levels 0 - 1) = 0 → 1 ≤ σ_10 kR_open 0 := fun q => by
          obtain ⟨p, T, c, f, m, -, -, -, -, h5, -⟩ := wp
          rw [if_neg (fun y => y.2 q)] at h5; omega
        refine wp_bd (P := fun rr_ => (rr_ = if σ_10 kR_partKind (σ_10 kR_levels 0 - 1) = 0 then σ_10 kR_open 0 - 1 else σ_10 kR_open 0) ∧ (0 ≤ rr_ ∧ rr_ ≤ 50)) ?_ ?_
        · refine wp_rdI (by (try dsimp only) <;> first | assumption | omega | ((try simp (disch := omega) only [w32_of, w64_of, w8_of]) <;> first | assumption | omega | (split <;> omega) | (refine And.intro ?_ ?_ <;> split <;> omega)) | omega) (by (try dsimp only) <;> first | assumption | omega | ((try simp (disch := omega) only [w32_of, w64_of, w8_of]) <;> first | assumption | omega | (split <;> omega) | (refine And.intro ?_ ?_ <;> split <;> omega)) | omega) (fun x_26 e_x_26 => ?_)
          have b_x_26 : 0 ≤ x_26 ∧ x_26 ≤ 7 := by rw [e_x_26]; exact ii_kR_partKind hσ_25 _
          try simp (disch := omega) only [w32_of, w64_of, w8_of] at e_x_26
          have c35 := ii_kR_partKind hσ_25 ((σ_10 kR_levels 0) - 1)
          have c36 := FR_at flσ_25 (c := kR_partKind) (by decide) ((σ_10 kR_levels 0) - 1)
          have c37 := ii_kR_partKind hσ_10 ((σ_10 kR_levels 0) - 1)
          rw [k25] at e_x_26
          have hop2 : x_26 = 0 → 1 ≤ σ_10 kR_open 0 := fun q => hop (by omega)
          have bk26 := ii_kR_partKind hσ_10 (σ_10 kR_levels 0 - 1)
          have c39 := w32_rng x_26
          refine wp_if (fun c38 => ?_) (fun c38 => ?_)
          · try simp (disch := omega) only [w32_of, w64_of, w8_of, decide_eq_true_eq, decide_eq_false_iff_not, Bool.not_eq_true] at c38
            have hop3 := hop2 (by omega)
            have c40 := ii_kR_open hσ_25 0
            have c41 := FR_at flσ_25 (c := kR_open) (by decide) 0
            have c42 := ii_kR_open hσ_10 0
            have c43 := ii_kR_partKind hσ_10 (σ_10 kR_levels 0 - 1)
            exact wp_some ⟨(by (try dsimp only) <;> (first | (rw [if_pos (by omega)]; omega) | (rw [if_neg (by omega)]; omega))), (by (try dsimp only) <;> first | assumption | omega | ((try simp (disch := omega) only [w32_of, w64_of, w8_of]) <;> first | assumption | omega | (split <;> omega) | (refine And.intro ?_ ?_ <;> split <;> omega)) | omega)⟩
          · try simp (disch := omega) only [w32_of, w64_of, w8_of, decide_eq_true_eq, decide_eq_false_iff_not, Bool.not_eq_true] at c38
            have c44 := ii_kR_open hσ_25 0
            have c45 := FR_at flσ_25 (c := kR_open) (by decide) 0
            have c46 := ii_kR_open hσ_10 0
            have c47 := ii_kR_partKind hσ_10 (σ_10 kR_levels 0 - 1)
            exact wp_some ⟨(by (try dsimp only) <;> (first | (rw [if_pos (by omega)]; omega) | (rw [if_neg (by omega)]; omega))), (by (try dsimp only) <;> first | assumption | omega | ((try simp (disch := omega) only [w32_of, w64_of, w8_of]) <;> first | assumption | omega | (split <;> omega) | (refine And.intro ?_ ?_ <;> split <;> omega)) | omega)⟩
        rintro x_31 _ ⟨gx31, g48⟩
        refine wp_wfI hσ_25 b_kR_open (by (try dsimp only) <;> first | assumption | omega | ((try simp (disch := omega) only [w32_of, w64_of, w8_of]) <;> first | assumption | omega | (split <;> omega) | (refine And.intro ?_ ?_ <;> split <;> omega)) | omega) (fun σ_32 hσ_32 eσ_32 => ?_)
        try simp (disch := omega) only [w32_of, w64_of, w8_of] at eσ_32
        have flσ_32 := FR_sg eσ_32
        have frσ_32 : FR [kR_at, kR_bigFirst, kR_faultKind, kR_faultPlace, kR_left, kR_levels, kR_open, kR_partKind, kR_plan, kR_planMany, kR_pointMany, kR_value, kR_xs, kR_ys] σ σ_32 := FR_tr frσ_25 flσ_32 (by decide) (by decide)
        have nfσ_32 : NF σ σ_32 := NF_fr nfσ_25 flσ_32 (by decide)
        have a32 : σ_32 kR_at 0 = σ_10 kR_at 0 := by rw [FR_at flσ_32 (c := kR_at) (by decide), FR_at flσ_25 (c := kR_at) (by decide)]
        have l32 : σ_32 kR_levels 0 = σ_10 kR_levels 0 - 1 := by rw [FR_at flσ_32 (c := kR_levels) (by decide)]; exact sg_val eσ_25
        have wsA : WB σ_32 true 0 := WB_close (ii_kR_planMany hσ_10 32).2 wo.2 wp cc2 (by omega) l32 (by rw [sg_val eσ_32]; exact gx31) (fun j => by rw [FR_at flσ_32 (c := kR_left) (by decide), FR_at flσ_25 (c := kR_left) (by decide)]) (fun j => by rw [FR_at flσ_32 (c := kR_partKind) (by decide), FR_at flσ_25 (c := kR_partKind) (by decide)]) (by rw [FR_at flσ_32 (c := kR_planMany) (by decide), FR_at flσ_25 (c := kR_planMany) (by decide)]) (by rw [FR_at flσ_32 (c := kR_pointMany) (by decide), FR_at flσ_25 (c := kR_pointMany) (by decide)]) (fun i => by rw [FR_at flσ_32 (c := kR_plan) (by decide), FR_at flσ_25 (c := kR_plan) (by decide)])
        have mt1 : (4 * (65536 - σ_32 kR_at 0) + σ_32 kR_levels 0 + bn_ good_9).toNat < (4 * (65536 - σ_10 kR_at 0) + σ_10 kR_levels 0 + bn_ good_9).toNat := by omega
        refine wp_somek ?_
        try dsimp only
        have c49 := ii_kR_at hσ_32 0
        have c50 := FR_at flσ_32 (c := kR_at) (by decide) 0
        have c51 := ii_kR_at hσ_25 0
        have c52 := FR_at flσ_25 (c := kR_at) (by decide) 0
        have c53 := ii_kR_at hσ_10 0
        have c54 := ii_kR_levels hσ_32 0
        have c55 := FR_at flσ_32 (c := kR_levels) (by decide) 0
        have c56 := ii_kR_levels hσ_25 0
        have c57 := sg_val eσ_25
        exact wp_some (x_inl ⟨⟨hσ_32, frσ_32, nfσ_32, (by (try dsimp only) <;> first | assumption | omega | ((try simp (disch := omega) only [w32_of, w64_of, w8_of]) <;> first | assumption | omega | (split <;> omega) | (refine And.intro ?_ ?_ <;> split <;> omega)) | omega), (by (try dsimp only) <;> (first | exact ws0 | exact fun _ => wsA | exact wsB))⟩, (by dsimp only; first | exact mt1 | exact mt2)⟩)
      · have hne := c33
        try simp (disch := omega) only [w32_of, w64_of, w8_of, decide_eq_true_eq, decide_eq_false_iff_not, Bool.not_eq_true] at c33
        refine wp_rdI (by (try dsimp only) <;> first | assumption | omega | ((try simp (disch := omega) only [w32_of, w64_of, w8_of]) <;> first | assumption | omega | (split <;> omega) | (refine And.intro ?_ ?_ <;> split <;> omega)) | omega) (by (try dsimp only) <;> first | assumption | omega | ((try simp (disch := omega) only [w32_of, w64_of, w8_of]) <;> first | assumption | omega | (split <;> omega) | (refine And.intro ?_ ?_ <;> split <;> omega)) | omega) (fun x_38 e_x_38 => ?_)
        have b_x_38 : (-9223372036854775808) ≤ x_38 ∧ x_38 ≤ 9223372036854775807 := by rw [e_x_38]; exact ii_kR_left hσ_10 _
        try simp (disch := omega) only [w32_of, w64_of, w8_of] at e_x_38
        have hl38 : 0 ≤ x_38 := by
          obtain ⟨p, T, c, f, m, -, -, -, -, -, h6⟩ := wp
          rw [e_x_38]; exact h6 _ (by omega) (by omega)
        have hn38 : σ_10 kR_left (σ_10 kR_levels 0 - 1) ≠ 0 := fun q => by
          rw [← e_x_22] at q
          rw [q] at hne
          exact hne (w64_of (by decide) (by decide))
        refine wp_waI hσ_10 b_kR_left (by (try dsimp only) <;> first | assumption | omega | ((try simp (disch := omega) only [w32_of, w64_of, w8_of]) <;> first | assumption | omega | (split <;> omega) | (refine And.intro ?_ ?_ <;> split <;> omega)) | omega) (by (try dsimp only) <;> first | assumption | omega | ((try simp (disch := omega) only [w32_of, w64_of, w8_of]) <;> first | assumption | omega | (split <;> omega) | (refine And.intro ?_ ?_ <;> split <;> omega)) | omega) (by (try dsimp only) <;> first | assumption | omega | ((try simp (disch := omega) only [w32_of, w64_of, w8_of]) <;> first | assumption | omega | (split <;> omega) | (refine And.intro ?_ ?_ <;> split <;> omega)) | omega) (fun σ_40 hσ_40 eσ_40 => ?_)
        try simp (disch := omega) only [w32_of, w64_of, w8_of] at eσ_40
        have flσ_40 := FR_sg eσ_40
        have frσ_40 : FR [kR_at, kR_bigFirst, kR_faultKind, kR_faultPlace, kR_left, kR_levels, kR_open, kR_partKind, kR_plan, kR_planMany, kR_pointMany, kR_value, kR_xs, kR_ys] σ σ_40 := FR_tr frσ_10 flσ_40 (by decide) (by decide)
        have nfσ_40 : NF σ σ_40 := NF_fr nfσ_10 flσ_40 (by decide)
        have ws40 : WB σ_40 false 1 := WB_dec hn38 wp cc2 (by rw [eσ_40]; congr 1; omega)
        have l40 : σ_40 kR_levels 0 = σ_10 kR_levels 0 := by rw [eσ_40, sg_nc (by decide)]
        have k40 : ∀ j, σ_40 kR_partKind j = σ_10 kR_partKind j := fun j => by rw [eσ_40, sg_nc (by decide)]
        have o40 : σ_40 kR_open 0 = σ_10 kR_open 0 := by rw [eσ_40, sg_nc (by decide)]
        have pk40 : 0 ≤ σ_10 kR_partKind (σ_10 kR_levels 0 - 1) ∧ σ_10 kR_partKind (σ_10 kR_levels 0 - 1) ≤ 3 := by
          obtain ⟨p, T, c, f, m, -, -, -, h4, -, -⟩ := wp
          rcases (h4 cc2).1 with ⟨y, -⟩ | ⟨y1, y2, -⟩ <;> omega
        refine wp_rdI (by (try dsimp only) <;> first | assumption | omega | ((try simp (disch := omega) only [w32_of, w64_of, w8_of]) <;> first | assumption | omega | (split <;> omega) | (refine And.intro ?_ ?_ <;> split <;> omega)) | omega) (by (try dsimp only) <;> first | assumption | omega | ((try simp (disch := omega) only [w32_of, w64_of, w8_of]) <;> first | assumption | omega | (split <;> omega) | (refine And.intro ?_ ?_ <;> split <;> omega)) | omega) (fun x_42 e_x_42 => ?_)
        have b_x_42 : 0 ≤ x_42 ∧ x_42 ≤ 7 := by rw [e_x_42]; exact ii_kR_partKind hσ_40 _
        try simp (disch := omega) only [w32_of, w64_of, w8_of] at e_x_42
        have c58 := ii_kR_partKind hσ_40 ((σ_10 kR_levels 0) - 1)
        have c59 := FR_at flσ_40 (c := kR_partKind) (by decide) ((σ_10 kR_levels 0) - 1)
        have c60 := ii_kR_partKind hσ_10 ((σ_10 kR_levels 0) - 1)
        rw [k40] at e_x_42
        have c61 := ii_kR_at hσ_40 0
        have c62 := FR_at flσ_40 (c := kR_at) (by decide) 0
        have c63 := ii_kR_at hσ_10 0
        have c64 := ii_kR_size hσ_40 0
        have c65 := FR_at flσ_40 (c := kR_size) (by decide) 0
        have c66 := ii_kR_size hσ_10 0
        have c67 := FR_at frσ_10 (c := kR_size) (by decide) 0
        have c68 := ii_kR_levels hσ_40 0
        have c69 := FR_at flσ_40 (c := kR_levels) (by decide) 0
        refine wp_bd (v_shapeOfBytes (σ := σ_40) (wanted_0 := x_42) hσ_40 (by (try dsimp only) <;> first | assumption | omega | ((try simp (disch := omega) only [w32_of, w64_of, w8_of]) <;> first | assumption | omega | (split <;> omega) | (refine And.intro ?_ ?_ <;> split <;> omega)) | omega) (by (try dsimp only) <;> first | assumption | omega | ((try simp (disch := omega) only [w32_of, w64_of, w8_of]) <;> first | assumption | omega | (split <;> omega) | (refine And.intro ?_ ?_ <;> split <;> omega)) | omega) (by (try dsimp only) <;> first | assumption | omega | ((try simp (disch := omega) only [w32_of, w64_of, w8_of]) <;> first | assumption | omega | (split <;> omega) | (refine And.intro ?_ ?_ <;> split <;> omega)) | omega) (by (try dsimp only) <;> first | assumption | omega | ((try simp (disch := omega) only [w32_of, w64_of, w8_of]) <;> first | assumption | omega | (split <;> omega) | (refine And.intro ?_ ?_ <;> split <;> omega)) | omega)) ?_
        rintro ⟨x_46, σ_45⟩ - y70
        try dsimp only at y70 ⊢
        obtain ⟨hσ_45, flσ_45, ngσ_45, gs1, gs2, gs3, gs4, gs5⟩ := y70
        have frσ_45 : FR [kR_at, kR_bigFirst, kR_faultKind, kR_faultPlace, kR_left, kR_levels, kR_open, kR_partKind, kR_plan, kR_planMany, kR_pointMany, kR_value, kR_xs, kR_ys] σ σ_45 := FR_tr frσ_40 flσ_45 (by decide) (by decide)
        have nfσ_45 : NF σ σ_45 := NF_tr nfσ_40 ngσ_45
        have c71 := ii_kR_at hσ_45 0
        try simp (disch := omega) only [w32_of, w64_of, w8_of] at gs1
        try simp (disch := omega) only [w32_of, w64_of, w8_of] at gs2
        try simp (disch := omega) only [w32_of, w64_of, w8_of] at gs3
        have c72 := ii_kR_levels hσ_45 0
        try simp (disch := omega) only [w32_of, w64_of, w8_of] at gs4
        try simp (disch := omega) only [w32_of, w64_of, w8_of] at gs5
        have wsB : (x_46 = true) → WB σ_45 true 0 := fun q => WB_go ws40 (fun _ => rfl) (by omega) (by omega) (by have := gs5 q; rw [show wn_ σ_40 = x_42 by unfold wn_; rw [if_pos (by omega), k40, l40]; omega]; exact this)
        have mt2 : (4 * (65536 - σ_45 kR_at 0) + σ_45 kR_levels 0 + bn_ x_46).toNat < (4 * (65536 - σ_10 kR_at 0) + σ_10 kR_levels 0 + bn_ good_9).toNat := by
          have a40 : σ_40 kR_at 0 = σ_10 kR_at 0 := by rw [eσ_40, sg_nc (by decide)]
          have a45 := ii_kR_at hσ_45 0
          have b45 := ii_kR_levels hσ_45 0
          by_cases hb : x_46 = true
          · have h3 := gs3 hb
            have h5 := gs5 hb
            have h8 := bn_01 x_46
            have h9 : σ_45 kR_levels 0 ≤ σ_40 kR_levels 0 + 1 := by
              rcases h5 with ⟨y, -⟩ | ⟨-, y, -⟩ <;> omega
            omega
          · have h4 := gs4 (Bool.eq_false_iff.mpr hb)
            rw [bn_f hb]; omega
        refine wp_somek ?_
        try dsimp only
        exact wp_some (x_inl ⟨⟨hσ_45, frσ_45, nfσ_45, (by (try dsimp only) <;> first | assumption | omega | ((try simp (disch := omega) only [w32_of, w64_of, w8_of]) <;> first | assumption | omega | (split <;> omega) | (refine And.intro ?_ ?_ <;> split <;> omega)) | omega), (by (try dsimp only) <;> (first | exact ws0 | exact fun _ => wsA | exact wsB))⟩, (by dsimp only; first | exact mt1 | exact mt2)⟩)
    · try simp (disch := omega) only [w32_of, w64_of, w8_of, decide_eq_true_eq, decide_eq_false_iff_not, Bool.not_eq_true] at cc
      have c73 := ii_kR_at hσ_10 0
      exact wp_some (x_inr ⟨hσ_10, frσ_10, nfσ_10, (by (try dsimp only) <;> first | assumption | omega | ((try simp (disch := omega) only [w32_of, w64_of, w8_of]) <;> first | assumption | omega | (split <;> omega) | (refine And.intro ?_ ?_ <;> split <;> omega)) | omega), (by (try dsimp only) <;> (intro q; have bl := ii_kR_levels hσ_10 0; have wz : ¬ 0 < σ_10 kR_levels 0 := fun z => cc ⟨q, z⟩; exact WB_end (gw1 q) (by omega)))⟩)
  rintro ⟨good_60, σ_61⟩ _ y75
  try dsimp only at y75 ⊢
  obtain ⟨hσ_61, frσ_61, nfσ_61, g74, gS⟩ := y75
  refine wp_bdk ?_
  refine wp_if (fun c76 => ?_) (fun c76 => ?_)
  · have k77 := gS c76
    try simp (disch := omega) only [w32_of, w64_of, w8_of] at k77
    try simp (disch := omega) only [w32_of, w64_of, w8_of, decide_eq_true_eq, decide_eq_false_iff_not, Bool.not_eq_true] at c76
    have c79 := ii_kR_at hσ_61 0
    have c80 := w32_rng (σ_61 kR_at 0)
    have c81 := ii_kR_size hσ_61 0
    have c82 := FR_at frσ_61 (c := kR_size) (by decide) 0
    have c83 := w32_rng (σ_61 kR_size 0)
    refine wp_if (fun c78 => ?_) (fun c78 => ?_)
    · try simp (disch := omega) only [w32_of, w64_of, w8_of, decide_eq_true_eq, decide_eq_false_iff_not, Bool.not_eq_true] at c78
      refine wp_somek ?_
      try dsimp only
      exact wp_some ⟨hσ_61, frσ_61, nfσ_61, (by (try dsimp only) <;> (exact fun _ => gS (by assumption)))⟩
    · try simp (disch := omega) only [w32_of, w64_of, w8_of, decide_eq_true_eq, decide_eq_false_iff_not, Bool.not_eq_true] at c78
      refine wp_bd (v_wrong (σ := σ_61) (kind_0 := 8) (where_0 := (σ_61 kR_at 0)) hσ_61 (by (try dsimp only) <;> first | assumption | omega | ((try simp (disch := omega) only [w32_of, w64_of, w8_of]) <;> first | assumption | omega | (split <;> omega) | (refine And.intro ?_ ?_ <;> split <;> omega)) | omega) (by (try dsimp only) <;> first | assumption | omega | ((try simp (disch := omega) only [w32_of, w64_of, w8_of]) <;> first | assumption | omega | (split <;> omega) | (refine And.intro ?_ ?_ <;> split <;> omega)) | omega)) ?_
      rintro ⟨x_67, σ_66⟩ - y85
      try dsimp only at y85 ⊢
      obtain ⟨hσ_66, flσ_66, g84⟩ := y85
      have frσ_66 : FR [kR_at, kR_bigFirst, kR_faultKind, kR_faultPlace, kR_left, kR_levels, kR_open, kR_partKind, kR_plan, kR_planMany, kR_pointMany, kR_value, kR_xs, kR_ys] σ σ_66 := FR_tr frσ_61 flσ_66 (by decide) (by decide)
      have nfσ_66 : NF σ σ_66 := NF_fr nfσ_61 flσ_66 (by decide)
      try simp (disch := omega) only [w32_of, w64_of, w8_of] at g84
      refine wp_if (fun c86 => ?_) (fun c86 => ?_)
      · exact absurd (c86.symm.trans g84) (by decide)
      · try simp (disch := omega) only [w32_of, w64_of, w8_of, decide_eq_true_eq, decide_eq_false_iff_not, Bool.not_eq_true] at c86
        refine wp_somek ?_
        try dsimp only
        exact wp_some ⟨hσ_66, frσ_66, nfσ_66, (fun q => (by cases q))⟩
  · try simp (disch := omega) only [w32_of, w64_of, w8_of, decide_eq_true_eq, decide_eq_false_iff_not, Bool.not_eq_true] at c76
    refine wp_somek ?_
    try dsimp only
    exact wp_some ⟨hσ_61, frσ_61, nfσ_61, (fun q => (by cases q))⟩
theorem v_reads {σ : SG} {slot_0 : Int} {isText_0 : Bool} (hσ : II σ) (qslot_0 : (-2147483648) ≤ slot_0 ∧ slot_0 ≤ 2147483647) (w0 : SHs σ) : wp_ (fR_reads σ slot_0 isText_0) (fun zz_ => II zz_.2 ∧ FR [kR_at, kR_bigFirst, kR_faultKind, kR_faultPlace, kR_left, kR_levels, kR_numberFrom, kR_numberTo, kR_numberWhole, kR_open, kR_openAt, kR_opened, kR_partKind, kR_plan, kR_planMany, kR_pointMany, kR_size, kR_tapeMany, kR_thrown, kR_value, kR_xs, kR_ys] σ zz_.2 ∧ (SHs zz_.2)) := by
  unfold fR_reads
  refine wp_wfI hσ b_kR_thrown (by (try dsimp only) <;> first | assumption | omega | ((try simp (disch := omega) only [w32_of, w64_of, w8_of]) <;> first | assumption | omega | (split <;> omega) | (refine And.intro ?_ ?_ <;> split <;> omega)) | omega) (fun σ_1 hσ_1 eσ_1 => ?_)
  try simp (disch := omega) only [w32_of, w64_of, w8_of] at eσ_1
  have flσ_1 := FR_sg eσ_1
  have frσ_1 : FR [kR_at, kR_bigFirst, kR_faultKind, kR_faultPlace, kR_left, kR_levels, kR_numberFrom, kR_numberTo, kR_numberWhole, kR_open, kR_openAt, kR_opened, kR_partKind, kR_plan, kR_planMany, kR_pointMany, kR_size, kR_tapeMany, kR_thrown, kR_value, kR_xs, kR_ys] σ σ_1 := FR_le flσ_1 (by decide)
  have c1 := ii_kR_tapeMany hσ_1 0
  have c2 := FR_at flσ_1 (c := kR_tapeMany) (by decide) 0
  have c3 := ii_kR_tapeMany hσ 0
  refine wp_wfI hσ_1 b_kR_size (by (try dsimp only) <;> first | assumption | omega | ((try simp (disch := omega) only [w32_of, w64_of, w8_of]) <;> first | assumption | omega | (split <;> omega) | (refine And.intro ?_ ?_ <;> split <;> omega)) | omega) (fun σ_2 hσ_2 eσ_2 => ?_)
  try simp (disch := omega) only [w32_of, w64_of, w8_of] at eσ_2
  have flσ_2 := FR_sg eσ_2
  have frσ_2 : FR [kR_at, kR_bigFirst, kR_faultKind, kR_faultPlace, kR_left, kR_levels, kR_numberFrom, kR_numberTo, kR_numberWhole, kR_open, kR_openAt, kR_opened, kR_partKind, kR_plan, kR_planMany, kR_pointMany, kR_size, kR_tapeMany, kR_thrown, kR_value, kR_xs, kR_ys] σ σ_2 := FR_tr frσ_1 flσ_2 (by decide) (by decide)
  refine wp_wfI hσ_2 b_kR_tapeMany (by (try dsimp only) <;> first | assumption | omega | ((try simp (disch := omega) only [w32_of, w64_of, w8_of]) <;> first | assumption | omega | (split <;> omega) | (refine And.intro ?_ ?_ <;> split <;> omega)) | omega) (fun σ_3 hσ_3 eσ_3 => ?_)
  try simp (disch := omega) only [w32_of, w64_of, w8_of] at eσ_3
  have flσ_3 := FR_sg eσ_3
  have frσ_3 : FR [kR_at, kR_bigFirst, kR_faultKind, kR_faultPlace, kR_left, kR_levels, kR_numberFrom, kR_numberTo, kR_numberWhole, kR_open, kR_openAt, kR_opened, kR_partKind, kR_plan, kR_planMany, kR_pointMany, kR_size, kR_tapeMany, kR_thrown, kR_value, kR_xs, kR_ys] σ σ_3 := FR_tr frσ_2 flσ_3 (by decide) (by decide)
  have c6 := ii_kR_thrown hσ_3 0
  have c7 := FR_at flσ_3 (c := kR_thrown) (by decide) 0
  have c8 := ii_kR_thrown hσ_2 0
  have c9 := FR_at flσ_2 (c := kR_thrown) (by decide) 0
  have c10 := ii_kR_thrown hσ_1 0
  have c11 := sg_val eσ_1
  refine wp_fails hσ_3 (by (try dsimp only) <;> first | assumption | omega | ((try simp (disch := omega) only [w32_of, w64_of, w8_of]) <;> first | assumption | omega | (split <;> omega) | (refine And.intro ?_ ?_ <;> split <;> omega)) | omega) (by decide) (fun σ_6 hσ_6 flσ_6 e4 e5 => ?_)
  try dsimp only
  have frσ_6 : FR [kR_at, kR_bigFirst, kR_faultKind, kR_faultPlace, kR_left, kR_levels, kR_numberFrom, kR_numberTo, kR_numberWhole, kR_open, kR_openAt, kR_opened, kR_partKind, kR_plan, kR_planMany, kR_pointMany, kR_size, kR_tapeMany, kR_thrown, kR_value, kR_xs, kR_ys] σ σ_6 := FR_tr frσ_3 flσ_6 (by decide) (by decide)
  have s6 : SHs σ_6 := SHs_f flσ_6 (by decide) (SHs_f flσ_3 (by decide) (SHs_f flσ_2 (by decide) (SHs_f flσ_1 (by decide) w0)))
  refine wp_if (fun c12 => ?_) (fun c12 => ?_)
  · have k13 := e4 c12
    try simp (disch := omega) only [w32_of, w64_of, w8_of, decide_eq_true_eq, decide_eq_false_iff_not, Bool.not_eq_true, fR_isSlot] at c12
    exact wp_some ⟨hσ_6, frσ_6, (by (try dsimp only) <;> (first | exact s6 | exact s30 | exact s36))⟩
  · have k14 := e5 c12
    try simp (disch := omega) only [w32_of, w64_of, w8_of, decide_eq_true_eq, decide_eq_false_iff_not, Bool.not_eq_true, fR_isSlot] at c12
    have t6 : σ_6 kR_thrown 0 = 0 := by assumption
    refine wp_bd (P := fun rr_ => II rr_.2 ∧ FR [kR_at, kR_bigFirst, kR_faultKind, kR_faultPlace, kR_left, kR_levels, kR_numberFrom, kR_numberTo, kR_numberWhole, kR_open, kR_openAt, kR_opened, kR_partKind, kR_plan, kR_planMany, kR_pointMany, kR_size, kR_tapeMany, kR_thrown, kR_value, kR_xs, kR_ys] σ rr_.2 ∧ (rr_.1 = true → SHn rr_.2) ∧ (NF σ_6 rr_.2) ∧ (rr_.2 kR_thrown 0 = 0)) ?_ ?_
    · refine wp_if (fun c15 => ?_) (fun c15 => ?_)
      · try simp (disch := omega) only [w32_of, w64_of, w8_of, decide_eq_true_eq, decide_eq_false_iff_not, Bool.not_eq_true] at c15
        refine wp_bd (v_words (σ := σ_6) hσ_6) ?_
        rintro ⟨x_18, σ_17⟩ - y16
        try dsimp only at y16 ⊢
        obtain ⟨hσ_17, flσ_17, ngσ_17, gw1⟩ := y16
        have frσ_17 : FR [kR_at, kR_bigFirst, kR_faultKind, kR_faultPlace, kR_left, kR_levels, kR_numberFrom, kR_numberTo, kR_numberWhole, kR_open, kR_openAt, kR_opened, kR_partKind, kR_plan, kR_planMany, kR_pointMany, kR_size, kR_tapeMany, kR_thrown, kR_value, kR_xs, kR_ys] σ σ_17 := FR_tr frσ_6 flσ_17 (by decide) (by decide)
        try simp (disch := omega) only [w32_of, w64_of, w8_of] at gw1
        have c17 := ii_kR_thrown hσ_17 0
        have c18 := FR_at flσ_17 (c := kR_thrown) (by decide) 0
        have c19 := ii_kR_thrown hσ_6 0
        exact wp_some ⟨hσ_17, frσ_17, (by (try dsimp only) <;> (first | exact gw1 | exact gb1)), (by (try dsimp only) <;> (first | exact ngσ_17 | exact ngσ_21)), (by (try dsimp only) <;> (first | exact (FR_at flσ_17 (c := kR_thrown) (by decide) 0).trans t6 | exact (FR_at flσ_21 (c := kR_thrown) (by decide) 0).trans t6))⟩
      · try simp (disch := omega) only [w32_of, w64_of, w8_of, decide_eq_true_eq, decide_eq_false_iff_not, Bool.not_eq_true] at c15
        refine wp_bd (v_bytes (σ := σ_6) hσ_6) ?_
        rintro ⟨x_22, σ_21⟩ - y20
        try dsimp only at y20 ⊢
        obtain ⟨hσ_21, flσ_21, ngσ_21, gb1⟩ := y20
        have frσ_21 : FR [kR_at, kR_bigFirst, kR_faultKind, kR_faultPlace, kR_left, kR_levels, kR_numberFrom, kR_numberTo, kR_numberWhole, kR_open, kR_openAt, kR_opened, kR_partKind, kR_plan, kR_planMany, kR_pointMany, kR_size, kR_tapeMany, kR_thrown, kR_value, kR_xs, kR_ys] σ σ_21 := FR_tr frσ_6 flσ_21 (by decide) (by decide)
        try simp (disch := omega) only [w32_of, w64_of, w8_of] at gb1
        have c21 := ii_kR_thrown hσ_21 0
        have c22 := FR_at flσ_21 (c := kR_thrown) (by decide) 0
        have c23 := ii_kR_thrown hσ_6 0
        exact wp_some ⟨hσ_21, frσ_21, (by (try dsimp only) <;> (first | exact gw1 | exact gb1)), (by (try dsimp only) <;> (first | exact ngσ_17 | exact ngσ_21)), (by (try dsimp only) <;> (first | exact (FR_at flσ_17 (c := kR_thrown) (by decide) 0).trans t6 | exact (FR_at flσ_21 (c := kR_thrown) (by decide) 0).trans t6))⟩
    rintro ⟨x_24, σ_25⟩ _ y24
    try dsimp only at y24 ⊢
    obtain ⟨hσ_25, frσ_25, gS, gN, gT⟩ := y24
    have s25 : SHs σ_25 := NF_SHs hσ_6 gN s6
    have t25 : σ_25 kR_thrown 0 = 0 := gT
    refine wp_bd (v_clear (σ := σ_25) (slot_0 := slot_0) hσ_25 (by (try dsimp only) <;> first | assumption | omega | ((try simp (disch := omega) only [w32_of, w64_of, w8_of]) <;> first | assumption | omega | (split <;> omega) | (refine And.intro ?_ ?_ <;> split <;> omega)) | omega)) ?_
    rintro σ_27 - ⟨hσ_27, flσ_27, gc1, gc2, gc3⟩
    have frσ_27 : FR [kR_at, kR_bigFirst, kR_faultKind, kR_faultPlace, kR_left, kR_levels, kR_numberFrom, kR_numberTo, kR_numberWhole, kR_open, kR_openAt, kR_opened, kR_partKind, kR_plan, kR_planMany, kR_pointMany, kR_size, kR_tapeMany, kR_thrown, kR_value, kR_xs, kR_ys] σ σ_27 := FR_tr frσ_25 flσ_27 (by decide) (by decide)
    have c25 := ii_kR_planMany hσ_27 slot_0
    try simp (disch := omega) only [w32_of, w64_of, w8_of] at gc1
    have c26 := ii_kR_pointMany hσ_27 slot_0
    try simp (disch := omega) only [w32_of, w64_of, w8_of] at gc2
    try simp (disch := omega) only [w32_of, w64_of, w8_of] at gc3
    have s27 : SHs σ_27 := SHs_clear (FR_at flσ_27 (c := kR_plan) (by decide)) ⟨gc1, gc2⟩ gc3 s25
    have t27 : σ_27 kR_thrown 0 = 0 := (FR_at flσ_27 (c := kR_thrown) (by decide) 0).trans t25
    have c29 := ii_kR_thrown hσ_27 0
    have c30 := FR_at flσ_27 (c := kR_thrown) (by decide) 0
    have c31 := ii_kR_thrown hσ_25 0
    refine wp_fails hσ_27 (by (try dsimp only) <;> first | assumption | omega | ((try simp (disch := omega) only [w32_of, w64_of, w8_of]) <;> first | assumption | omega | (split <;> omega) | (refine And.intro ?_ ?_ <;> split <;> omega)) | omega) (by decide) (fun σ_30 hσ_30 flσ_30 e27 e28 => ?_)
    try dsimp only
    have frσ_30 : FR [kR_at, kR_bigFirst, kR_faultKind, kR_faultPlace, kR_left, kR_levels, kR_numberFrom, kR_numberTo, kR_numberWhole, kR_open, kR_openAt, kR_opened, kR_partKind, kR_plan, kR_planMany, kR_pointMany, kR_size, kR_tapeMany, kR_thrown, kR_value, kR_xs, kR_ys] σ σ_30 := FR_tr frσ_27 flσ_30 (by decide) (by decide)
    have s30 : SHs σ_30 := SHs_f flσ_30 (by decide) s27
    refine wp_if (fun c32 => ?_) (fun c32 => ?_)
    · have k33 := e27 c32
      try simp (disch := omega) only [w32_of, w64_of, w8_of, decide_eq_true_eq, decide_eq_false_iff_not, Bool.not_eq_true] at c32
      exact wp_some ⟨hσ_30, frσ_30, (by (try dsimp only) <;> (first | exact s6 | exact s30 | exact s36))⟩
    · have k34 := e28 c32
      try simp (disch := omega) only [w32_of, w64_of, w8_of, decide_eq_true_eq, decide_eq_false_iff_not, Bool.not_eq_true] at c32
      have gS2 := gS (by simp_all)
      have n27 : SHn σ_27 := SHn_fr (FR_at flσ_27 (c := kR_plan) (by decide)) (gc3 32 (by omega)).1 (gc3 32 (by omega)).2 gS2
      have n30 : SHn σ_30 := SHn_f flσ_30 (by decide) n27
      refine wp_wfI hσ_30 b_kR_faultKind (by (try dsimp only) <;> first | assumption | omega | ((try simp (disch := omega) only [w32_of, w64_of, w8_of]) <;> first | assumption | omega | (split <;> omega) | (refine And.intro ?_ ?_ <;> split <;> omega)) | omega) (fun σ_33 hσ_33 eσ_33 => ?_)
      try simp (disch := omega) only [w32_of, w64_of, w8_of] at eσ_33
      have flσ_33 := FR_sg eσ_33
      have frσ_33 : FR [kR_at, kR_bigFirst, kR_faultKind, kR_faultPlace, kR_left, kR_levels, kR_numberFrom, kR_numberTo, kR_numberWhole, kR_open, kR_openAt, kR_opened, kR_partKind, kR_plan, kR_planMany, kR_pointMany, kR_size, kR_tapeMany, kR_thrown, kR_value, kR_xs, kR_ys] σ σ_33 := FR_tr frσ_30 flσ_33 (by decide) (by decide)
      refine wp_wfI hσ_33 b_kR_faultPlace (by (try dsimp only) <;> first | assumption | omega | ((try simp (disch := omega) only [w32_of, w64_of, w8_of]) <;> first | assumption | omega | (split <;> omega) | (refine And.intro ?_ ?_ <;> split <;> omega)) | omega) (fun σ_34 hσ_34 eσ_34 => ?_)
      try simp (disch := omega) only [w32_of, w64_of, w8_of] at eσ_34
      have flσ_34 := FR_sg eσ_34
      have frσ_34 : FR [kR_at, kR_bigFirst, kR_faultKind, kR_faultPlace, kR_left, kR_levels, kR_numberFrom, kR_numberTo, kR_numberWhole, kR_open, kR_openAt, kR_opened, kR_partKind, kR_plan, kR_planMany, kR_pointMany, kR_size, kR_tapeMany, kR_thrown, kR_value, kR_xs, kR_ys] σ σ_34 := FR_tr frσ_33 flσ_34 (by decide) (by decide)
      have n34 : SHn σ_34 := SHn_f flσ_34 (by decide) (SHn_f flσ_33 (by decide) n30)
      have s34 : SHs σ_34 := SHs_f flσ_34 (by decide) (SHs_f flσ_33 (by decide) s30)
      refine wp_bd (v_move (σ := σ_34) (from_0 := 32) (to_0 := slot_0) hσ_34 (by (try dsimp only) <;> first | assumption | omega | ((try simp (disch := omega) only [w32_of, w64_of, w8_of]) <;> first | assumption | omega | (split <;> omega) | (refine And.intro ?_ ?_ <;> split <;> omega)) | omega) (by (try dsimp only) <;> first | assumption | omega | ((try simp (disch := omega) only [w32_of, w64_of, w8_of]) <;> first | assumption | omega | (split <;> omega) | (refine And.intro ?_ ?_ <;> split <;> omega)) | omega) (by (try dsimp only) <;> first | assumption | omega | ((try simp (disch := omega) only [w32_of, w64_of, w8_of]) <;> first | assumption | omega | (split <;> omega) | (refine And.intro ?_ ?_ <;> split <;> omega)) | omega)) ?_
      rintro σ_36 - ⟨hσ_36, flσ_36, gm1⟩
      have frσ_36 : FR [kR_at, kR_bigFirst, kR_faultKind, kR_faultPlace, kR_left, kR_levels, kR_numberFrom, kR_numberTo, kR_numberWhole, kR_open, kR_openAt, kR_opened, kR_partKind, kR_plan, kR_planMany, kR_pointMany, kR_size, kR_tapeMany, kR_thrown, kR_value, kR_xs, kR_ys] σ σ_36 := FR_tr frσ_34 flσ_36 (by decide) (by decide)
      try simp (disch := omega) only [w32_of, w64_of, w8_of] at gm1
      have s36 : SHs σ_36 := MV_SHs hσ_34 gm1 (SHn_SH n34) s34
      have c35 := w32_rng (2048 * slot_0)
      refine wp_rdI (by (try dsimp only) <;> first | assumption | omega | ((try simp (disch := omega) only [w32_of, w64_of, w8_of]) <;> first | assumption | omega | (split <;> omega) | (refine And.intro ?_ ?_ <;> split <;> omega)) | omega) (by (try dsimp only) <;> first | assumption | omega | ((try simp (disch := omega) only [w32_of, w64_of, w8_of]) <;> first | assumption | omega | (split <;> omega) | (refine And.intro ?_ ?_ <;> split <;> omega)) | omega) (fun x_37 e_x_37 => ?_)
      try simp (disch := omega) only [w32_of, w64_of, w8_of] at e_x_37
      exact wp_some ⟨hσ_36, frσ_36, (by (try dsimp only) <;> (first | exact s6 | exact s30 | exact s36))⟩
theorem v_readWords {σ : SG} {slot_0 : Int} (hσ : II σ) (qslot_0 : (-2147483648) ≤ slot_0 ∧ slot_0 ≤ 2147483647) (w0 : SHs σ) : wp_ (fR_readWords σ slot_0) (fun zz_ => II zz_.2 ∧ FR [kR_at, kR_bigFirst, kR_faultKind, kR_faultPlace, kR_left, kR_levels, kR_numberFrom, kR_numberTo, kR_numberWhole, kR_open, kR_openAt, kR_opened, kR_partKind, kR_plan, kR_planMany, kR_pointMany, kR_size, kR_tapeMany, kR_thrown, kR_value, kR_xs, kR_ys] σ zz_.2 ∧ (SHs zz_.2)) := by
  unfold fR_readWords
  refine wp_bd (v_reads (σ := σ) (slot_0 := slot_0) (isText_0 := true) hσ (by (try dsimp only) <;> first | assumption | omega | ((try simp (disch := omega) only [w32_of, w64_of, w8_of]) <;> first | assumption | omega | (split <;> omega) | (refine And.intro ?_ ?_ <;> split <;> omega)) | omega) w0) ?_
  rintro ⟨x_3, σ_2⟩ - y2
  try dsimp only at y2 ⊢
  obtain ⟨hσ_2, flσ_2, g1⟩ := y2
  have frσ_2 : FR [kR_at, kR_bigFirst, kR_faultKind, kR_faultPlace, kR_left, kR_levels, kR_numberFrom, kR_numberTo, kR_numberWhole, kR_open, kR_openAt, kR_opened, kR_partKind, kR_plan, kR_planMany, kR_pointMany, kR_size, kR_tapeMany, kR_thrown, kR_value, kR_xs, kR_ys] σ σ_2 := FR_le flσ_2 (by decide)
  try simp (disch := omega) only [w32_of, w64_of, w8_of] at g1
  exact wp_some ⟨hσ_2, frσ_2, g1⟩
theorem v_readBytes {σ : SG} {slot_0 : Int} (hσ : II σ) (qslot_0 : (-2147483648) ≤ slot_0 ∧ slot_0 ≤ 2147483647) (w0 : SHs σ) : wp_ (fR_readBytes σ slot_0) (fun zz_ => II zz_.2 ∧ FR [kR_at, kR_bigFirst, kR_faultKind, kR_faultPlace, kR_left, kR_levels, kR_numberFrom, kR_numberTo, kR_numberWhole, kR_open, kR_openAt, kR_opened, kR_partKind, kR_plan, kR_planMany, kR_pointMany, kR_size, kR_tapeMany, kR_thrown, kR_value, kR_xs, kR_ys] σ zz_.2 ∧ (SHs zz_.2)) := by
  unfold fR_readBytes
  refine wp_bd (v_reads (σ := σ) (slot_0 := slot_0) (isText_0 := false) hσ (by (try dsimp only) <;> first | assumption | omega | ((try simp (disch := omega) only [w32_of, w64_of, w8_of]) <;> first | assumption | omega | (split <;> omega) | (refine And.intro ?_ ?_ <;> split <;> omega)) | omega) w0) ?_
  rintro ⟨x_3, σ_2⟩ - y2
  try dsimp only at y2 ⊢
  obtain ⟨hσ_2, flσ_2, g1⟩ := y2
  have frσ_2 : FR [kR_at, kR_bigFirst, kR_faultKind, kR_faultPlace, kR_left, kR_levels, kR_numberFrom, kR_numberTo, kR_numberWhole, kR_open, kR_openAt, kR_opened, kR_partKind, kR_plan, kR_planMany, kR_pointMany, kR_size, kR_tapeMany, kR_thrown, kR_value, kR_xs, kR_ys] σ σ_2 := FR_le flσ_2 (by decide)
  try simp (disch := omega) only [w32_of, w64_of, w8_of] at g1
  exact wp_some ⟨hσ_2, frσ_2, g1⟩
