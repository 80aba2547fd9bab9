theorem v_keeps {σ : SG} {from_0 : Int} {n_0 : Int} {far_0 : Int} (hσ : II σ) (qfar_0 : 0 ≤ far_0 ∧ far_0 ≤ 1000000000) (w0 : ∃ s, 0 ≤ s ∧ s ≤ 31 ∧ 2048 * s ≤ from_0 ∧ from_0 + n_0 ≤ 2048 * s + 2048) (w1 : 0 ≤ n_0) (w2 : 0 ≤ far_0 ∧ far_0 ≤ 1000000000) (w3 : σ kR_pointMany 32 + n_0 ≤ 2048) : wp_ (fR_keeps σ from_0 n_0 far_0) (fun zz_ => II zz_.2 ∧ FR [kR_limbs, kR_pointMany, kR_sign, kR_spanFrom, kR_spanTo, kR_stays, kR_w, kR_xs, kR_ys] σ zz_.2 ∧ NF σ zz_.2 ∧ (0 ≤ zz_.1 ∧ zz_.1 ≤ n_0) ∧ (zz_.2 kR_pointMany 32 = σ kR_pointMany 32 + zz_.1)) := by
  unfold fR_keeps
  have c1 := ii_kR_pointMany hσ 32
  obtain ⟨s, w4, w5, w6, w7⟩ := id w0
  have hqd := q_idv2048 (x := from_0) (by omega) (by omega)
  refine wp_bd (s_R_thins (σ := σ) (from_0 := from_0) (n_0 := n_0) (far_0 := far_0) hσ (by (try dsimp only) <;> first | assumption | omega | ((try simp (disch := omega) only [w32_of, w64_of, w8_of]) <;> first | assumption | omega | (split <;> omega) | (refine And.intro ?_ ?_ <;> split <;> omega)) | omega) (by (try dsimp only) <;> first | assumption | omega | ((try simp (disch := omega) only [w32_of, w64_of, w8_of]) <;> first | assumption | omega | (split <;> omega) | (refine And.intro ?_ ?_ <;> split <;> omega)) | omega) (by (try dsimp only) <;> first | assumption | omega | ((try simp (disch := omega) only [w32_of, w64_of, w8_of]) <;> first | assumption | omega | (split <;> omega) | (refine And.intro ?_ ?_ <;> split <;> omega)) | omega) (by (try dsimp only) <;> first | assumption | omega | ((try simp (disch := omega) only [w32_of, w64_of, w8_of]) <;> first | assumption | omega | (split <;> omega) | (refine And.intro ?_ ?_ <;> split <;> omega)) | omega)) ?_
  rintro σ_2 - ⟨hσ_2, flσ_2⟩
  have frσ_2 : FR [kR_limbs, kR_pointMany, kR_sign, kR_spanFrom, kR_spanTo, kR_stays, kR_w, kR_xs, kR_ys] σ σ_2 := FR_le flσ_2 (by decide)
  have nfσ_2 : NF σ σ_2 := NF_fr (NF_refl _) flσ_2 (by decide)
  refine wp_bd (P := fun rr_ => II rr_.2.2 ∧ FR [kR_limbs, kR_pointMany, kR_sign, kR_spanFrom, kR_spanTo, kR_stays, kR_w, kR_xs, kR_ys] σ rr_.2.2 ∧ NF σ rr_.2.2 ∧ (0 ≤ rr_.1 ∧ rr_.1 ≤ n_0) ∧ (rr_.2.2 kR_pointMany 32 = σ kR_pointMany 32 + rr_.1)) ?_ ?_
  · have c2 := ii_kR_pointMany hσ_2 32
    have c3 := FR_at flσ_2 (c := kR_pointMany) (by decide) 32
    refine wp_whl (fun ss_ => II ss_.2.2 ∧ FR [kR_limbs, kR_pointMany, kR_sign, kR_spanFrom, kR_spanTo, kR_stays, kR_w, kR_xs, kR_ys] σ ss_.2.2 ∧ NF σ ss_.2.2 ∧ (0 ≤ ss_.2.1 ∧ ss_.2.1 ≤ n_0) ∧ (0 ≤ ss_.1 ∧ ss_.1 ≤ ss_.2.1) ∧ (ss_.2.2 kR_pointMany 32 = σ kR_pointMany 32 + ss_.1)) (fun ss_ => (n_0 - ss_.2.1).toNat) ⟨hσ_2, frσ_2, nfσ_2, (by (try dsimp only) <;> first | assumption | omega | ((try simp (disch := omega) only [w32_of, w64_of, w8_of]) <;> first | assumption | omega | (split <;> omega) | (refine And.intro ?_ ?_ <;> split <;> omega)) | omega), (by (try dsimp only) <;> first | assumption | omega | ((try simp (disch := omega) only [w32_of, w64_of, w8_of]) <;> first | assumption | omega | (split <;> omega) | (refine And.intro ?_ ?_ <;> split <;> omega)) | omega), (by (try dsimp only) <;> first | assumption | omega | ((try simp (disch := omega) only [w32_of, w64_of, w8_of]) <;> first | assumption | omega | (split <;> omega) | (refine And.intro ?_ ?_ <;> split <;> omega)) | omega)⟩ ?_
    rintro ⟨many_3, k_4, σ_5⟩ y7
    try dsimp only at y7 ⊢
    obtain ⟨hσ_5, frσ_5, nfσ_5, g4, g5, g6⟩ := y7
    have c9 := w32_rng k_4
    have c10 := w32_rng n_0
    refine wp_if (fun c8 => ?_) (fun c8 => ?_)
    · try simp (disch := omega) only [w32_of, w64_of, w8_of, decide_eq_true_eq, decide_eq_false_iff_not, Bool.not_eq_true] at c8
      have c11 := q_idv_bd from_0 2048 (by (try dsimp only) <;> first | assumption | omega | ((try simp (disch := omega) only [w32_of, w64_of, w8_of]) <;> first | assumption | omega | (split <;> omega) | (refine And.intro ?_ ?_ <;> split <;> omega)) | omega) (by (try dsimp only) <;> first | assumption | omega | ((try simp (disch := omega) only [w32_of, w64_of, w8_of]) <;> first | assumption | omega | (split <;> omega) | (refine And.intro ?_ ?_ <;> split <;> omega)) | omega)
      try simp (disch := omega) only [w32_of, w64_of, w8_of] at c11
      have c12 := w32_rng ((from_0 - ((q_idv from_0 2048) * 2048)) + k_4)
      refine wp_rdI (by (try dsimp only) <;> first | assumption | omega | ((try simp (disch := omega) only [w32_of, w64_of, w8_of]) <;> first | assumption | omega | (split <;> omega) | (refine And.intro ?_ ?_ <;> split <;> omega)) | omega) (by (try dsimp only) <;> first | assumption | omega | ((try simp (disch := omega) only [w32_of, w64_of, w8_of]) <;> first | assumption | omega | (split <;> omega) | (refine And.intro ?_ ?_ <;> split <;> omega)) | omega) (fun x_14 e_x_14 => ?_)
      have b_x_14 : 0 ≤ x_14 ∧ x_14 ≤ 1 := by rw [e_x_14]; exact ii_kR_stays hσ_5 _
      try simp (disch := omega) only [w32_of, w64_of, w8_of] at e_x_14
      have c13 := ii_kR_stays hσ_5 ((from_0 - ((q_idv from_0 2048) * 2048)) + k_4)
      refine wp_if (fun c14 => ?_) (fun c14 => ?_)
      · try simp (disch := omega) only [w32_of, w64_of, w8_of, decide_eq_true_eq, decide_eq_false_iff_not, Bool.not_eq_true] at c14
        have c15 := w32_rng (from_0 + k_4)
        refine wp_rdI (by (try dsimp only) <;> first | assumption | omega | ((try simp (disch := omega) only [w32_of, w64_of, w8_of]) <;> first | assumption | omega | (split <;> omega) | (refine And.intro ?_ ?_ <;> split <;> omega)) | omega) (by (try dsimp only) <;> first | assumption | omega | ((try simp (disch := omega) only [w32_of, w64_of, w8_of]) <;> first | assumption | omega | (split <;> omega) | (refine And.intro ?_ ?_ <;> split <;> omega)) | omega) (fun x_17 e_x_17 => ?_)
        have b_x_17 : (-1000000000) ≤ x_17 ∧ x_17 ≤ 1000000000 := by rw [e_x_17]; exact ii_kR_xs hσ_5 _
        try simp (disch := omega) only [w32_of, w64_of, w8_of] at e_x_17
        have c16 := ii_kR_xs hσ_5 (from_0 + k_4)
        refine wp_rdI (by (try dsimp only) <;> first | assumption | omega | ((try simp (disch := omega) only [w32_of, w64_of, w8_of]) <;> first | assumption | omega | (split <;> omega) | (refine And.intro ?_ ?_ <;> split <;> omega)) | omega) (by (try dsimp only) <;> first | assumption | omega | ((try simp (disch := omega) only [w32_of, w64_of, w8_of]) <;> first | assumption | omega | (split <;> omega) | (refine And.intro ?_ ?_ <;> split <;> omega)) | omega) (fun x_19 e_x_19 => ?_)
        have b_x_19 : (-1000000000) ≤ x_19 ∧ x_19 ≤ 1000000000 := by rw [e_x_19]; exact ii_kR_ys hσ_5 _
        try simp (disch := omega) only [w32_of, w64_of, w8_of] at e_x_19
        have c17 := ii_kR_ys hσ_5 (from_0 + k_4)
        have c18 := w32_rng x_17
        have c19 := w32_rng x_19
        have c20 := ii_kR_pointMany hσ_5 32
        refine wp_bd (v_dot (σ := σ_5) (x_0 := (w32 x_17)) (y_0 := (w32 x_19)) hσ_5 (by (try dsimp only) <;> first | assumption | omega | ((try simp (disch := omega) only [w32_of, w64_of, w8_of]) <;> first | assumption | omega | (split <;> omega) | (refine And.intro ?_ ?_ <;> split <;> omega)) | omega) (by (try dsimp only) <;> first | assumption | omega | ((try simp (disch := omega) only [w32_of, w64_of, w8_of]) <;> first | assumption | omega | (split <;> omega) | (refine And.intro ?_ ?_ <;> split <;> omega)) | omega) (by (try dsimp only) <;> first | assumption | omega | ((try simp (disch := omega) only [w32_of, w64_of, w8_of]) <;> first | assumption | omega | (split <;> omega) | (refine And.intro ?_ ?_ <;> split <;> omega)) | omega) (by (try dsimp only) <;> first | assumption | omega | ((try simp (disch := omega) only [w32_of, w64_of, w8_of]) <;> first | assumption | omega | (split <;> omega) | (refine And.intro ?_ ?_ <;> split <;> omega)) | omega) (by (try dsimp only) <;> first | assumption | omega | ((try simp (disch := omega) only [w32_of, w64_of, w8_of]) <;> first | assumption | omega | (split <;> omega) | (refine And.intro ?_ ?_ <;> split <;> omega)) | omega)) ?_
        rintro σ_22 - ⟨hσ_22, flσ_22, ngσ_22, d1⟩
        have frσ_22 : FR [kR_limbs, kR_pointMany, kR_sign, kR_spanFrom, kR_spanTo, kR_stays, kR_w, kR_xs, kR_ys] σ σ_22 := FR_tr frσ_5 flσ_22 (by decide) (by decide)
        have nfσ_22 : NF σ σ_22 := NF_tr nfσ_5 ngσ_22
        have c21 := ii_kR_pointMany hσ_22 32
        try simp (disch := omega) only [w32_of, w64_of, w8_of] at d1
        exact wp_some (x_inl ⟨⟨hσ_22, frσ_22, nfσ_22, (by (try dsimp only) <;> first | assumption | omega | ((try simp (disch := omega) only [w32_of, w64_of, w8_of]) <;> first | assumption | omega | (split <;> omega) | (refine And.intro ?_ ?_ <;> split <;> omega)) | omega), (by (try dsimp only) <;> first | assumption | omega | ((try simp (disch := omega) only [w32_of, w64_of, w8_of]) <;> first | assumption | omega | (split <;> omega) | (refine And.intro ?_ ?_ <;> split <;> omega)) | omega), (by (try dsimp only) <;> first | assumption | omega | ((try simp (disch := omega) only [w32_of, w64_of, w8_of]) <;> first | assumption | omega | (split <;> omega) | (refine And.intro ?_ ?_ <;> split <;> omega)) | omega)⟩, (by (try dsimp only) <;> first | assumption | omega | ((try simp (disch := omega) only [w32_of, w64_of, w8_of]) <;> first | assumption | omega | (split <;> omega) | (refine And.intro ?_ ?_ <;> split <;> omega)) | omega)⟩)
      · try simp (disch := omega) only [w32_of, w64_of, w8_of, decide_eq_true_eq, decide_eq_false_iff_not, Bool.not_eq_true] at c14
        have c22 := ii_kR_pointMany hσ_5 32
        exact wp_some (x_inl ⟨⟨hσ_5, frσ_5, nfσ_5, (by (try dsimp only) <;> first | assumption | omega | ((try simp (disch := omega) only [w32_of, w64_of, w8_of]) <;> first | assumption | omega | (split <;> omega) | (refine And.intro ?_ ?_ <;> split <;> omega)) | omega), (by (try dsimp only) <;> first | assumption | omega | ((try simp (disch := omega) only [w32_of, w64_of, w8_of]) <;> first | assumption | omega | (split <;> omega) | (refine And.intro ?_ ?_ <;> split <;> omega)) | omega), (by (try dsimp only) <;> first | assumption | omega | ((try simp (disch := omega) only [w32_of, w64_of, w8_of]) <;> first | assumption | omega | (split <;> omega) | (refine And.intro ?_ ?_ <;> split <;> omega)) | omega)⟩, (by (try dsimp only) <;> first | assumption | omega | ((try simp (disch := omega) only [w32_of, w64_of, w8_of]) <;> first | assumption | omega | (split <;> omega) | (refine And.intro ?_ ?_ <;> split <;> omega)) | omega)⟩)
    · try simp (disch := omega) only [w32_of, w64_of, w8_of, decide_eq_true_eq, decide_eq_false_iff_not, Bool.not_eq_true] at c8
      have c23 := ii_kR_pointMany hσ_5 32
      exact wp_some (x_inr ⟨hσ_5, frσ_5, nfσ_5, (by (try dsimp only) <;> first | assumption | omega | ((try simp (disch := omega) only [w32_of, w64_of, w8_of]) <;> first | assumption | omega | (split <;> omega) | (refine And.intro ?_ ?_ <;> split <;> omega)) | omega), (by (try dsimp only) <;> first | assumption | omega | ((try simp (disch := omega) only [w32_of, w64_of, w8_of]) <;> first | assumption | omega | (split <;> omega) | (refine And.intro ?_ ?_ <;> split <;> omega)) | omega)⟩)
  rintro ⟨many_26, k_27, σ_28⟩ _ y26
  try dsimp only at y26 ⊢
  obtain ⟨hσ_28, frσ_28, nfσ_28, g24, g25⟩ := y26
  have c27 := ii_kR_pointMany hσ_28 32
  exact wp_some ⟨hσ_28, frσ_28, nfσ_28, (by (try dsimp only) <;> first | assumption | omega | ((try simp (disch := omega) only [w32_of, w64_of, w8_of]) <;> first | assumption | omega | (split <;> omega) | (refine And.intro ?_ ?_ <;> split <;> omega)) | omega), (by (try dsimp only) <;> first | assumption | omega | ((try simp (disch := omega) only [w32_of, w64_of, w8_of]) <;> first | assumption | omega | (split <;> omega) | (refine And.intro ?_ ?_ <;> split <;> omega)) | omega)⟩
theorem s_R_simplify {σ : SG} {slot_0 : Int} {to_0 : Int} {distance_0 : Int} (hσ : II σ) (qslot_0 : (-2147483648) ≤ slot_0 ∧ slot_0 ≤ 2147483647) (qto_0 : (-2147483648) ≤ to_0 ∧ to_0 ≤ 2147483647) (qdistance_0 : (-2147483648) ≤ distance_0 ∧ distance_0 ≤ 2147483647) (w0 : SHs σ) : wp_ (fR_simplify σ slot_0 to_0 distance_0) (fun zz_ => II zz_.2 ∧ FR [kR_limbs, kR_plan, kR_planMany, kR_pointMany, kR_sign, kR_spanFrom, kR_spanTo, kR_stays, kR_thrown, kR_w, kR_xs, kR_ys] σ zz_.2 ∧ (SHs zz_.2)) := by
  unfold fR_simplify
  refine wp_wfI hσ b_kR_thrown (by (try dsimp only) <;> first | assumption | omega | ((try simp (disch := omega) only [w32_of, w64_of, w8_of]) <;> first | assumption | omega | (split <;> omega) | (refine And.intro ?_ ?_ <;> split <;> omega)) | omega) (fun σ_1 hσ_1 eσ_1 => ?_)
  try simp (disch := omega) only [w32_of, w64_of, w8_of] at eσ_1
  have flσ_1 := FR_sg eσ_1
  have frσ_1 : FR [kR_limbs, kR_plan, kR_planMany, kR_pointMany, kR_sign, kR_spanFrom, kR_spanTo, kR_stays, kR_thrown, kR_w, kR_xs, kR_ys] σ σ_1 := FR_le flσ_1 (by decide)
  have c3 := ii_kR_thrown hσ_1 0
  have c4 := sg_val eσ_1
  refine wp_fails hσ_1 (by (try dsimp only) <;> first | assumption | omega | ((try simp (disch := omega) only [w32_of, w64_of, w8_of]) <;> first | assumption | omega | (split <;> omega) | (refine And.intro ?_ ?_ <;> split <;> omega)) | omega) (by decide) (fun σ_35 hσ_35 flσ_35 e1 e2 => ?_)
  try dsimp only
  have frσ_35 : FR [kR_limbs, kR_plan, kR_planMany, kR_pointMany, kR_sign, kR_spanFrom, kR_spanTo, kR_stays, kR_thrown, kR_w, kR_xs, kR_ys] σ σ_35 := FR_tr frσ_1 flσ_35 (by decide) (by decide)
  have s35 : SHs σ_35 := SHs_f flσ_35 (by decide) (SHs_f flσ_1 (by decide) w0)
  refine wp_if (fun c5 => ?_) (fun c5 => ?_)
  · have k6 := e1 c5
    try simp (disch := omega) only [w32_of, w64_of, w8_of, decide_eq_true_eq, decide_eq_false_iff_not, Bool.not_eq_true, fR_isSlot] at c5
    exact wp_some ⟨hσ_35, frσ_35, (by (try dsimp only) <;> (first | exact s148 | exact s50 | exact s45 | exact s35))⟩
  · have k7 := e2 c5
    try simp (disch := omega) only [w32_of, w64_of, w8_of, decide_eq_true_eq, decide_eq_false_iff_not, Bool.not_eq_true, fR_isSlot] at c5
    refine wp_bd (P := fun rr_ => ((rr_ = false) → 0 < σ_35 kR_planMany slot_0)) ?_ ?_
    · refine wp_bd (v_has (σ := σ_35) (slot_0 := slot_0) hσ_35 (by (try dsimp only) <;> first | assumption | omega | ((try simp (disch := omega) only [w32_of, w64_of, w8_of]) <;> first | assumption | omega | (split <;> omega) | (refine And.intro ?_ ?_ <;> split <;> omega)) | omega)) ?_
      rintro x_39 - g8
      have c9 := ii_kR_planMany hσ_35 slot_0
      have c10 := FR_at flσ_35 (c := kR_planMany) (by decide) slot_0
      have c11 := ii_kR_planMany hσ_1 slot_0
      have c12 := FR_at flσ_1 (c := kR_planMany) (by decide) slot_0
      have c13 := ii_kR_planMany hσ slot_0
      try simp (disch := omega) only [w32_of, w64_of, w8_of] at g8
      refine wp_if (fun c14 => ?_) (fun c14 => ?_)
      · have k15 := g8.mp c14
        try simp (disch := omega) only [w32_of, w64_of, w8_of] at k15
        try simp (disch := omega) only [w32_of, w64_of, w8_of, decide_eq_true_eq, decide_eq_false_iff_not, Bool.not_eq_true] at c14
        exact wp_some (by (try dsimp only) <;> (first | (intro h; exact absurd h (by decide)) | (intro _; omega)))
      · have k16 := fun q => c14 (g8.mpr q)
        try simp (disch := omega) only [w32_of, w64_of, w8_of] at k16
        try simp (disch := omega) only [w32_of, w64_of, w8_of, decide_eq_true_eq, decide_eq_false_iff_not, Bool.not_eq_true] at c14
        exact wp_some (fun q => (by cases q))
    rintro x_43 _ g43
    have c19 := ii_kR_thrown hσ_35 0
    refine wp_fails hσ_35 (by (try dsimp only) <;> first | assumption | omega | ((try simp (disch := omega) only [w32_of, w64_of, w8_of]) <;> first | assumption | omega | (split <;> omega) | (refine And.intro ?_ ?_ <;> split <;> omega)) | omega) (by decide) (fun σ_45 hσ_45 flσ_45 e17 e18 => ?_)
    try dsimp only
    have frσ_45 : FR [kR_limbs, kR_plan, kR_planMany, kR_pointMany, kR_sign, kR_spanFrom, kR_spanTo, kR_stays, kR_thrown, kR_w, kR_xs, kR_ys] σ σ_45 := FR_tr frσ_35 flσ_45 (by decide) (by decide)
    have s45 : SHs σ_45 := SHs_f flσ_45 (by decide) s35
    refine wp_if (fun c20 => ?_) (fun c20 => ?_)
    · have k22 := e17 c20
      try simp (disch := omega) only [w32_of, w64_of, w8_of, decide_eq_true_eq, decide_eq_false_iff_not, Bool.not_eq_true] at c20
      exact wp_some ⟨hσ_45, frσ_45, (by (try dsimp only) <;> (first | exact s148 | exact s50 | exact s45 | exact s35))⟩
    · have k23 := g43 (Bool.eq_false_iff.mpr c20)
      try simp (disch := omega) only [w32_of, w64_of, w8_of] at k23
      have k24 := e18 c20
      try simp (disch := omega) only [w32_of, w64_of, w8_of, decide_eq_true_eq, decide_eq_false_iff_not, Bool.not_eq_true] at c20
      have p35 := g43 (by simp_all)
      have c25 := w32_rng distance_0
      have c28 := ii_kR_thrown hσ_45 0
      refine wp_fails hσ_45 (by (try dsimp only) <;> first | assumption | omega | ((try simp (disch := omega) only [w32_of, w64_of, w8_of]) <;> first | assumption | omega | (split <;> omega) | (refine And.intro ?_ ?_ <;> split <;> omega)) | omega) (by decide) (fun σ_50 hσ_50 flσ_50 e26 e27 => ?_)
      try dsimp only
      have frσ_50 : FR [kR_limbs, kR_plan, kR_planMany, kR_pointMany, kR_sign, kR_spanFrom, kR_spanTo, kR_stays, kR_thrown, kR_w, kR_xs, kR_ys] σ σ_50 := FR_tr frσ_45 flσ_50 (by decide) (by decide)
      have s50 : SHs σ_50 := SHs_f flσ_50 (by decide) s45
      have p50 : σ_50 kR_planMany slot_0 = σ_35 kR_planMany slot_0 := (FR_at flσ_50 (c := kR_planMany) (by decide) _).trans (FR_at flσ_45 (c := kR_planMany) (by decide) _)
      refine wp_if (fun c29 => ?_) (fun c29 => ?_)
      · have k30 := e26 c29
        try simp (disch := omega) only [w32_of, w64_of, w8_of, decide_eq_true_eq, decide_eq_false_iff_not, Bool.not_eq_true, fR_in] at c29
        exact wp_some ⟨hσ_50, frσ_50, (by (try dsimp only) <;> (first | exact s148 | exact s50 | exact s45 | exact s35))⟩
      · have k31 := e27 c29
        try simp (disch := omega) only [w32_of, w64_of, w8_of, decide_eq_true_eq, decide_eq_false_iff_not, Bool.not_eq_true, fR_in] at c29
        refine wp_bd (v_clear (σ := σ_50) (slot_0 := 32) hσ_50 (by (try dsimp only) <;> first | assumption | omega | ((try simp (disch := omega) only [w32_of, w64_of, w8_of]) <;> first | assumption | omega | (split <;> omega) | (refine And.intro ?_ ?_ <;> split <;> omega)) | omega)) ?_
        rintro σ_54 - ⟨hσ_54, flσ_54, gc1, gc2, gc3⟩
        have frσ_54 : FR [kR_limbs, kR_plan, kR_planMany, kR_pointMany, kR_sign, kR_spanFrom, kR_spanTo, kR_stays, kR_thrown, kR_w, kR_xs, kR_ys] σ σ_54 := FR_tr frσ_50 flσ_54 (by decide) (by decide)
        have c32 := ii_kR_planMany hσ_54 32
        try simp (disch := omega) only [w32_of, w64_of, w8_of] at gc1
        have c33 := ii_kR_pointMany hσ_54 32
        try simp (disch := omega) only [w32_of, w64_of, w8_of] at gc2
        try simp (disch := omega) only [w32_of, w64_of, w8_of] at gc3
        have s54 : SHs σ_54 := SHs_clear (FR_at flσ_54 (c := kR_plan) (by decide)) ⟨gc1, gc2⟩ gc3 s50
        have p54 : σ_54 kR_planMany slot_0 = σ_50 kR_planMany slot_0 := (gc3 slot_0 (by omega)).1
        have hpm := ii_kR_planMany hσ_54 slot_0
        have hqm := ii_kR_pointMany hσ_54 slot_0
        have c34 := w32_rng slot_0
        refine wp_rdI (by (try dsimp only) <;> first | assumption | omega | ((try simp (disch := omega) only [w32_of, w64_of, w8_of]) <;> first | assumption | omega | (split <;> omega) | (refine And.intro ?_ ?_ <;> split <;> omega)) | omega) (by (try dsimp only) <;> first | assumption | omega | ((try simp (disch := omega) only [w32_of, w64_of, w8_of]) <;> first | assumption | omega | (split <;> omega) | (refine And.intro ?_ ?_ <;> split <;> omega)) | omega) (fun x_55 e_x_55 => ?_)
        have b_x_55 : 0 ≤ x_55 ∧ x_55 ≤ 2048 := by rw [e_x_55]; exact ii_kR_pointMany hσ_54 _
        try simp (disch := omega) only [w32_of, w64_of, w8_of] at e_x_55
        have c35 := ii_kR_pointMany hσ_54 slot_0
        refine wp_rdI (by (try dsimp only) <;> first | assumption | omega | ((try simp (disch := omega) only [w32_of, w64_of, w8_of]) <;> first | assumption | omega | (split <;> omega) | (refine And.intro ?_ ?_ <;> split <;> omega)) | omega) (by (try dsimp only) <;> first | assumption | omega | ((try simp (disch := omega) only [w32_of, w64_of, w8_of]) <;> first | assumption | omega | (split <;> omega) | (refine And.intro ?_ ?_ <;> split <;> omega)) | omega) (fun x_57 e_x_57 => ?_)
        have b_x_57 : 0 ≤ x_57 ∧ x_57 ≤ 2048 := by rw [e_x_57]; exact ii_kR_planMany hσ_54 _
        try simp (disch := omega) only [w32_of, w64_of, w8_of] at e_x_57
        have c36 := ii_kR_planMany hσ_54 slot_0
        refine wp_bd (P := fun rr_ => II rr_.2.2 ∧ FR [kR_limbs, kR_plan, kR_planMany, kR_pointMany, kR_sign, kR_spanFrom, kR_spanTo, kR_stays, kR_thrown, kR_w, kR_xs, kR_ys] σ rr_.2.2 ∧ (SMs σ_54 rr_.2.2 slot_0 (2048 * slot_0 + σ_54 kR_planMany slot_0)) ∧ (NF σ_54 rr_.2.2)) ?_ ?_
        · refine wp_whl (fun ss_ => II ss_.2.2 ∧ FR [kR_limbs, kR_plan, kR_planMany, kR_pointMany, kR_sign, kR_spanFrom, kR_spanTo, kR_stays, kR_thrown, kR_w, kR_xs, kR_ys] σ ss_.2.2 ∧ (FLw σ_54 slot_0 ss_.1 ss_.2.1) ∧ (NF σ_54 ss_.2.2) ∧ (SMs σ_54 ss_.2.2 slot_0 ss_.1) ∧ (ss_.2.2 kR_pointMany 32 ≤ ss_.2.1 - 2048 * slot_0)) (fun ss_ => (2048 * slot_0 + 2050 - ss_.1).toNat) ⟨hσ_54, frσ_54, (by (try dsimp only) <;> (first | exact gw2 | exact FLw_0 (s54 _ (by omega) (by omega)))), (by (try dsimp only) <;> (first | exact gn2 | exact NF_refl _)), (by (try dsimp only) <;> (first | exact gs2 | exact SMs_0 gc1 gc2)), (by (try dsimp only) <;> first | assumption | omega | ((try simp (disch := omega) only [w32_of, w64_of, w8_of]) <;> first | assumption | omega | (split <;> omega) | (refine And.intro ?_ ?_ <;> split <;> omega)) | omega)⟩ ?_
          rintro ⟨p_59, point_60, σ_61⟩ y38
          try dsimp only at y38 ⊢
          obtain ⟨hσ_61, frσ_61, gw, gn, gs, g37⟩ := y38
          have hle := FLw_le gw
          have gs1 := gs.1
          have c40 := w32_rng p_59
          have c41 := w32_rng ((2048 * slot_0) + x_57)
          refine wp_if (fun c39 => ?_) (fun c39 => ?_)
          · try simp (disch := omega) only [w32_of, w64_of, w8_of, decide_eq_true_eq, decide_eq_false_iff_not, Bool.not_eq_true] at c39
            refine wp_rdI (by (try dsimp only) <;> first | assumption | omega | ((try simp (disch := omega) only [w32_of, w64_of, w8_of]) <;> first | assumption | omega | (split <;> omega) | (refine And.intro ?_ ?_ <;> split <;> omega)) | omega) (by (try dsimp only) <;> first | assumption | omega | ((try simp (disch := omega) only [w32_of, w64_of, w8_of]) <;> first | assumption | omega | (split <;> omega) | (refine And.intro ?_ ?_ <;> split <;> omega)) | omega) (fun x_70 e_x_70 => ?_)
            try simp (disch := omega) only [w32_of, w64_of, w8_of] at e_x_70
            have c42 := w32_rng (p_59 + 1)
            refine wp_rdI (by (try dsimp only) <;> first | assumption | omega | ((try simp (disch := omega) only [w32_of, w64_of, w8_of]) <;> first | assumption | omega | (split <;> omega) | (refine And.intro ?_ ?_ <;> split <;> omega)) | omega) (by (try dsimp only) <;> first | assumption | omega | ((try simp (disch := omega) only [w32_of, w64_of, w8_of]) <;> first | assumption | omega | (split <;> omega) | (refine And.intro ?_ ?_ <;> split <;> omega)) | omega) (fun x_72 e_x_72 => ?_)
            try simp (disch := omega) only [w32_of, w64_of, w8_of] at e_x_72
            obtain ⟨ho, hn, h2, h3, h4, h5, -⟩ := FLw_hd gw (by omega)
            have hx70 : x_70 = σ_54 kR_plan p_59 := e_x_70.trans (gn.1 p_59 (by omega)).1
            have hx72 : x_72 = σ_54 kR_plan (p_59 + 1) := e_x_72.trans (gn.1 (p_59 + 1) (by omega)).1
            have ho1 := ho.1
            have ho2 := ho.2.1
            have ho3 := ho.2.2.1
            have ho4 := ho.2.2.2.1
            have hle2 := FLw_le hn
            have c43 := ii_kR_planMany hσ_61 32
            refine wp_bd (v_tell (σ := σ_61) (v_0 := x_70) hσ_61 (by (try dsimp only) <;> first | assumption | omega | ((try simp (disch := omega) only [w32_of, w64_of, w8_of]) <;> first | assumption | omega | (split <;> omega) | (refine And.intro ?_ ?_ <;> split <;> omega)) | omega)) ?_
            rintro σ_75 - ⟨hσ_75, flσ_75, ngσ_75, t1, t2, t3⟩
            have frσ_75 : FR [kR_limbs, kR_plan, kR_planMany, kR_pointMany, kR_sign, kR_spanFrom, kR_spanTo, kR_stays, kR_thrown, kR_w, kR_xs, kR_ys] σ σ_75 := FR_tr frσ_61 flσ_75 (by decide) (by decide)
            have c44 := ii_kR_planMany hσ_75 32
            try simp (disch := omega) only [w32_of, w64_of, w8_of] at t1
            try simp (disch := omega) only [w32_of, w64_of, w8_of] at t2
            try simp (disch := omega) only [w32_of, w64_of, w8_of] at t3
            have a1 := t1
            have a2 := t2
            have a3 := t3
            have q75 : σ_75 kR_pointMany 32 = σ_61 kR_pointMany 32 := FR_at flσ_75 (c := kR_pointMany) (by decide) 32
            have c46 := w32_rng x_70
            refine wp_if (fun c45 => ?_) (fun c45 => ?_)
            · try simp (disch := omega) only [w32_of, w64_of, w8_of, decide_eq_true_eq, decide_eq_false_iff_not, Bool.not_eq_true] at c45
              have el2 := el_n (pl := σ_54 kR_plan) (p := p_59) (by omega)
              have ep2 := ep_l (pl := σ_54 kR_plan) (p := p_59) (by omega)
              have c47 := ii_kR_pointMany hσ_75 32
              have c48 := FR_at flσ_75 (c := kR_pointMany) (by decide) 32
              have c49 := ii_kR_pointMany hσ_61 32
              refine wp_bd (v_keeps (σ := σ_75) (from_0 := point_60) (n_0 := x_72) (far_0 := (w32 distance_0)) hσ_75 (by (try dsimp only) <;> first | assumption | omega | ((try simp (disch := omega) only [w32_of, w64_of, w8_of]) <;> first | assumption | omega | (split <;> omega) | (refine And.intro ?_ ?_ <;> split <;> omega)) | omega) (by exact ⟨slot_0, by omega, by omega, by omega, by omega⟩) (by (try dsimp only) <;> first | assumption | omega | ((try simp (disch := omega) only [w32_of, w64_of, w8_of]) <;> first | assumption | omega | (split <;> omega) | (refine And.intro ?_ ?_ <;> split <;> omega)) | omega) (by (try dsimp only) <;> first | assumption | omega | ((try simp (disch := omega) only [w32_of, w64_of, w8_of]) <;> first | assumption | omega | (split <;> omega) | (refine And.intro ?_ ?_ <;> split <;> omega)) | omega) (by (try dsimp only) <;> first | assumption | omega | ((try simp (disch := omega) only [w32_of, w64_of, w8_of]) <;> first | assumption | omega | (split <;> omega) | (refine And.intro ?_ ?_ <;> split <;> omega)) | omega)) ?_
              rintro ⟨x_79, σ_78⟩ - y50
              try dsimp only at y50 ⊢
              obtain ⟨hσ_78, flσ_78, ngσ_78, kv, kq⟩ := y50
              have frσ_78 : FR [kR_limbs, kR_plan, kR_planMany, kR_pointMany, kR_sign, kR_spanFrom, kR_spanTo, kR_stays, kR_thrown, kR_w, kR_xs, kR_ys] σ σ_78 := FR_tr frσ_75 flσ_78 (by decide) (by decide)
              try simp (disch := omega) only [w32_of, w64_of, w8_of] at kv
              have c51 := ii_kR_pointMany hσ_78 32
              try simp (disch := omega) only [w32_of, w64_of, w8_of] at kq
              have m78 : σ_78 kR_planMany 32 = σ_61 kR_planMany 32 + 1 := (FR_at flσ_78 (c := kR_planMany) (by decide) 32).trans a1
              have c52 := ii_kR_planMany hσ_78 32
              have c53 := FR_at flσ_78 (c := kR_planMany) (by decide) 32
              refine wp_bd (v_tell (σ := σ_78) (v_0 := x_79) hσ_78 (by (try dsimp only) <;> first | assumption | omega | ((try simp (disch := omega) only [w32_of, w64_of, w8_of]) <;> first | assumption | omega | (split <;> omega) | (refine And.intro ?_ ?_ <;> split <;> omega)) | omega)) ?_
              rintro σ_81 - ⟨hσ_81, flσ_81, ngσ_81, t1, t2, t3⟩
              have frσ_81 : FR [kR_limbs, kR_plan, kR_planMany, kR_pointMany, kR_sign, kR_spanFrom, kR_spanTo, kR_stays, kR_thrown, kR_w, kR_xs, kR_ys] σ σ_81 := FR_tr frσ_78 flσ_81 (by decide) (by decide)
              have c54 := ii_kR_planMany hσ_81 32
              try simp (disch := omega) only [w32_of, w64_of, w8_of] at t1
              try simp (disch := omega) only [w32_of, w64_of, w8_of] at t2
              try simp (disch := omega) only [w32_of, w64_of, w8_of] at t3
              have c1 : σ_81 kR_plan (65536 + σ_61 kR_planMany 32) = 2 := by rw [t3 _ (by omega), FR_at flσ_78 (c := kR_plan) (by decide), a2]; omega
              have c2 : σ_81 kR_plan (65536 + σ_61 kR_planMany 32 + 1) = x_79 := by rw [show 65536 + σ_61 kR_planMany 32 + 1 = 65536 + σ_78 kR_planMany 32 by omega]; exact t2
              have q81 : σ_81 kR_pointMany 32 = σ_78 kR_pointMany 32 := FR_at flσ_81 (c := kR_pointMany) (by decide) 32
              have gs2 : SMs σ_54 σ_81 slot_0 (p_59 + 2) := by
                have g := SMs_go gs (υ := σ_81) ⟨by omega, by omega, by rw [c2]; omega, fun z => by omega, fun z => by omega⟩ (by rw [el_n (by omega)]; omega) (by rw [ep_l (by omega), c2]; omega) (by omega) (fun z => by omega) (fun i hi => by rw [t3 i (by omega), FR_at flσ_78 (c := kR_plan) (by decide), a3 i (by omega)])
                rw [el2] at g; exact g
              have gn2 : NF σ_54 σ_81 := NF_tr (NF_tr (NF_tr gn ngσ_75) ngσ_78) ngσ_81
              have gw2 : FLw σ_54 slot_0 (p_59 + 2) (point_60 + x_72) := by
                have z := hn
                rw [el2, ep2, ← hx72] at z; exact z
              have c55 := ii_kR_pointMany hσ_81 32
              have c56 := FR_at flσ_81 (c := kR_pointMany) (by decide) 32
              exact wp_some (x_inl ⟨⟨hσ_81, frσ_81, (by (try dsimp only) <;> (first | exact gw2 | exact FLw_0 (s54 _ (by omega) (by omega)))), (by (try dsimp only) <;> (first | exact gn2 | exact NF_refl _)), (by (try dsimp only) <;> (first | exact gs2 | exact SMs_0 gc1 gc2)), (by (try dsimp only) <;> first | assumption | omega | ((try simp (disch := omega) only [w32_of, w64_of, w8_of]) <;> first | assumption | omega | (split <;> omega) | (refine And.intro ?_ ?_ <;> split <;> omega)) | omega)⟩, (by (try dsimp only) <;> first | assumption | omega | ((try simp (disch := omega) only [w32_of, w64_of, w8_of]) <;> first | assumption | omega | (split <;> omega) | (refine And.intro ?_ ?_ <;> split <;> omega)) | omega)⟩)
            · try simp (disch := omega) only [w32_of, w64_of, w8_of, decide_eq_true_eq, decide_eq_false_iff_not, Bool.not_eq_true] at c45
              refine wp_bd (v_tell (σ := σ_75) (v_0 := x_72) hσ_75 (by (try dsimp only) <;> first | assumption | omega | ((try simp (disch := omega) only [w32_of, w64_of, w8_of]) <;> first | assumption | omega | (split <;> omega) | (refine And.intro ?_ ?_ <;> split <;> omega)) | omega)) ?_
              rintro σ_84 - ⟨hσ_84, flσ_84, ngσ_84, t1, t2, t3⟩
              have frσ_84 : FR [kR_limbs, kR_plan, kR_planMany, kR_pointMany, kR_sign, kR_spanFrom, kR_spanTo, kR_stays, kR_thrown, kR_w, kR_xs, kR_ys] σ σ_84 := FR_tr frσ_75 flσ_84 (by decide) (by decide)
              have c57 := ii_kR_planMany hσ_84 32
              try simp (disch := omega) only [w32_of, w64_of, w8_of] at t1
              try simp (disch := omega) only [w32_of, w64_of, w8_of] at t2
              try simp (disch := omega) only [w32_of, w64_of, w8_of] at t3
              have b1 := t1
              have b2 := t2
              have b3 := t3
              have q84 : σ_84 kR_pointMany 32 = σ_61 kR_pointMany 32 := (FR_at flσ_84 (c := kR_pointMany) (by decide) 32).trans q75
              have gn3 : NF σ_54 σ_84 := NF_tr (NF_tr gn ngσ_75) ngσ_84
              have ept : x_70 < 3 → eP (σ_54 kR_plan) p_59 = x_72 := fun z => by rw [ep_l (by omega), hx72]
              refine wp_bd (P := fun rr_ => II rr_ ∧ FR [kR_limbs, kR_plan, kR_planMany, kR_pointMany, kR_sign, kR_spanFrom, kR_spanTo, kR_stays, kR_thrown, kR_w, kR_xs, kR_ys] σ rr_ ∧ (rr_ kR_plan = σ_84 kR_plan) ∧ (rr_ kR_planMany = σ_84 kR_planMany) ∧ (x_70 = 1 → rr_ kR_pointMany 32 = σ_84 kR_pointMany 32 + x_72) ∧ (¬ x_70 = 1 → rr_ kR_pointMany 32 = σ_84 kR_pointMany 32) ∧ (NF σ_54 rr_)) ?_ ?_
              · have c59 := w32_rng x_72
                refine wp_if (fun c58 => ?_) (fun c58 => ?_)
                · try simp (disch := omega) only [w32_of, w64_of, w8_of, decide_eq_true_eq, decide_eq_false_iff_not, Bool.not_eq_true] at c58
                  have c60 := w32_rng point_60
                  refine wp_rdI (by (try dsimp only) <;> first | assumption | omega | ((try simp (disch := omega) only [w32_of, w64_of, w8_of]) <;> first | assumption | omega | (split <;> omega) | (refine And.intro ?_ ?_ <;> split <;> omega)) | omega) (by (try dsimp only) <;> first | assumption | omega | ((try simp (disch := omega) only [w32_of, w64_of, w8_of]) <;> first | assumption | omega | (split <;> omega) | (refine And.intro ?_ ?_ <;> split <;> omega)) | omega) (fun x_89 e_x_89 => ?_)
                  have b_x_89 : (-1000000000) ≤ x_89 ∧ x_89 ≤ 1000000000 := by rw [e_x_89]; exact ii_kR_xs hσ_84 _
                  try simp (disch := omega) only [w32_of, w64_of, w8_of] at e_x_89
                  have c61 := ii_kR_xs hσ_84 point_60
                  have c62 := FR_at flσ_84 (c := kR_xs) (by decide) point_60
                  have c63 := ii_kR_xs hσ_75 point_60
                  have c64 := FR_at flσ_75 (c := kR_xs) (by decide) point_60
                  have c65 := ii_kR_xs hσ_61 point_60
                  refine wp_rdI (by (try dsimp only) <;> first | assumption | omega | ((try simp (disch := omega) only [w32_of, w64_of, w8_of]) <;> first | assumption | omega | (split <;> omega) | (refine And.intro ?_ ?_ <;> split <;> omega)) | omega) (by (try dsimp only) <;> first | assumption | omega | ((try simp (disch := omega) only [w32_of, w64_of, w8_of]) <;> first | assumption | omega | (split <;> omega) | (refine And.intro ?_ ?_ <;> split <;> omega)) | omega) (fun x_91 e_x_91 => ?_)
                  have b_x_91 : (-1000000000) ≤ x_91 ∧ x_91 ≤ 1000000000 := by rw [e_x_91]; exact ii_kR_ys hσ_84 _
                  try simp (disch := omega) only [w32_of, w64_of, w8_of] at e_x_91
                  have c66 := ii_kR_ys hσ_84 point_60
                  have c67 := FR_at flσ_84 (c := kR_ys) (by decide) point_60
                  have c68 := ii_kR_ys hσ_75 point_60
                  have c69 := FR_at flσ_75 (c := kR_ys) (by decide) point_60
                  have c70 := ii_kR_ys hσ_61 point_60
                  have c71 := w32_rng x_89
                  have c72 := w32_rng x_91
                  have c73 := ii_kR_pointMany hσ_84 32
                  have c74 := FR_at flσ_84 (c := kR_pointMany) (by decide) 32
                  have c75 := ii_kR_pointMany hσ_75 32
                  have c76 := FR_at flσ_75 (c := kR_pointMany) (by decide) 32
                  have c77 := ii_kR_pointMany hσ_61 32
                  refine wp_bd (v_dot (σ := σ_84) (x_0 := (w32 x_89)) (y_0 := (w32 x_91)) hσ_84 (by (try dsimp only) <;> first | assumption | omega | ((try simp (disch := omega) only [w32_of, w64_of, w8_of]) <;> first | assumption | omega | (split <;> omega) | (refine And.intro ?_ ?_ <;> split <;> omega)) | omega) (by (try dsimp only) <;> first | assumption | omega | ((try simp (disch := omega) only [w32_of, w64_of, w8_of]) <;> first | assumption | omega | (split <;> omega) | (refine And.intro ?_ ?_ <;> split <;> omega)) | omega) (by (try dsimp only) <;> first | assumption | omega | ((try simp (disch := omega) only [w32_of, w64_of, w8_of]) <;> first | assumption | omega | (split <;> omega) | (refine And.intro ?_ ?_ <;> split <;> omega)) | omega) (by (try dsimp only) <;> first | assumption | omega | ((try simp (disch := omega) only [w32_of, w64_of, w8_of]) <;> first | assumption | omega | (split <;> omega) | (refine And.intro ?_ ?_ <;> split <;> omega)) | omega) (by (try dsimp only) <;> first | assumption | omega | ((try simp (disch := omega) only [w32_of, w64_of, w8_of]) <;> first | assumption | omega | (split <;> omega) | (refine And.intro ?_ ?_ <;> split <;> omega)) | omega)) ?_
                  rintro σ_94 - ⟨hσ_94, flσ_94, ngσ_94, d1⟩
                  have frσ_94 : FR [kR_limbs, kR_plan, kR_planMany, kR_pointMany, kR_sign, kR_spanFrom, kR_spanTo, kR_stays, kR_thrown, kR_w, kR_xs, kR_ys] σ σ_94 := FR_tr frσ_84 flσ_94 (by decide) (by decide)
                  have c78 := ii_kR_pointMany hσ_94 32
                  try simp (disch := omega) only [w32_of, w64_of, w8_of] at d1
                  exact wp_some ⟨hσ_94, frσ_94, (by (try dsimp only) <;> (first | rfl | (funext i; exact FR_at flσ_94 (by decide) i))), (by (try dsimp only) <;> (first | rfl | (funext i; exact FR_at flσ_94 (by decide) i))), (by (try dsimp only) <;> first | assumption | omega | ((try simp (disch := omega) only [w32_of, w64_of, w8_of]) <;> first | assumption | omega | (split <;> omega) | (refine And.intro ?_ ?_ <;> split <;> omega)) | omega), (by (try dsimp only) <;> first | assumption | omega | ((try simp (disch := omega) only [w32_of, w64_of, w8_of]) <;> first | assumption | omega | (split <;> omega) | (refine And.intro ?_ ?_ <;> split <;> omega)) | omega), (by (try dsimp only) <;> (first | exact NF_tr gn3 ngσ_94 | exact gn3))⟩
                · try simp (disch := omega) only [w32_of, w64_of, w8_of, decide_eq_true_eq, decide_eq_false_iff_not, Bool.not_eq_true] at c58
                  have c79 := ii_kR_pointMany hσ_84 32
                  have c80 := FR_at flσ_84 (c := kR_pointMany) (by decide) 32
                  have c81 := ii_kR_pointMany hσ_75 32
                  have c82 := FR_at flσ_75 (c := kR_pointMany) (by decide) 32
                  have c83 := ii_kR_pointMany hσ_61 32
                  exact wp_some ⟨hσ_84, frσ_84, (by (try dsimp only) <;> (first | rfl | (funext i; exact FR_at flσ_94 (by decide) i))), (by (try dsimp only) <;> (first | rfl | (funext i; exact FR_at flσ_94 (by decide) i))), (by (try dsimp only) <;> first | assumption | omega | ((try simp (disch := omega) only [w32_of, w64_of, w8_of]) <;> first | assumption | omega | (split <;> omega) | (refine And.intro ?_ ?_ <;> split <;> omega)) | omega), (by (try dsimp only) <;> first | assumption | omega | ((try simp (disch := omega) only [w32_of, w64_of, w8_of]) <;> first | assumption | omega | (split <;> omega) | (refine And.intro ?_ ?_ <;> split <;> omega)) | omega), (by (try dsimp only) <;> (first | exact NF_tr gn3 ngσ_94 | exact gn3))⟩
              rintro σ_104 _ ⟨hσ_104, frσ_104, gP, gM, g84, g85, gn4⟩
              have m104 : σ_104 kR_planMany 32 = σ_61 kR_planMany 32 + 2 := by rw [gM]; omega
              have d1 : σ_104 kR_plan (65536 + σ_61 kR_planMany 32) = x_70 := by rw [gP, b3 _ (by omega)]; exact a2
              have d2 : σ_104 kR_plan (65536 + σ_61 kR_planMany 32 + 1) = x_72 := by rw [gP, show 65536 + σ_61 kR_planMany 32 + 1 = 65536 + σ_75 kR_planMany 32 by omega]; exact b2
              have d3 : ∀ i, i < 65536 + σ_61 kR_planMany 32 → σ_104 kR_plan i = σ_61 kR_plan i := fun i hi => by rw [gP, b3 i (by omega), a3 i (by omega)]
              have hr0 : RWp (σ_54 kR_plan) p_59 0 (p_59 + 2) point_60 (point_60 + (if w32 x_70 = 1 then x_72 else 0)) := by
                have z := RW_0 (pt := point_60) ho hx70 hx72
                have w : w32 x_70 = x_70 := w32_of (by omega) (by omega)
                rw [w] at z ⊢
                rw [show (if x_70 < 3 then x_72 else 0) = (if x_70 = 1 then x_72 else 0) by split <;> split <;> omega] at z
                exact z
              have hi1 : (if w32 x_70 = 1 then x_72 else 0) = if x_70 = 1 then x_72 else 0 := by rw [w32_of (by omega) (by omega)]
              have hi2 : 0 ≤ (if w32 x_70 = 1 then x_72 else 0) ∧ σ_104 kR_pointMany 32 ≤ σ_61 kR_pointMany 32 + (if w32 x_70 = 1 then x_72 else 0) := by rw [hi1]; split <;> omega
              refine wp_bd (P := fun rr_ => II rr_.2.2.2 ∧ FR [kR_limbs, kR_plan, kR_planMany, kR_pointMany, kR_sign, kR_spanFrom, kR_spanTo, kR_stays, kR_thrown, kR_w, kR_xs, kR_ys] σ rr_.2.2.2 ∧ (FLw σ_54 slot_0 rr_.1 rr_.2.1) ∧ (SMs σ_54 rr_.2.2.2 slot_0 rr_.1) ∧ (NF σ_54 rr_.2.2.2) ∧ (rr_.2.2.2 kR_pointMany 32 ≤ rr_.2.1 - 2048 * slot_0) ∧ (p_59 + 2 ≤ rr_.1)) ?_ ?_
              · have c86 := ii_kR_planMany hσ_104 32
                have c87 := ii_kR_pointMany hσ_104 32
                refine wp_whl (fun ss_ => II ss_.2.2.2 ∧ FR [kR_limbs, kR_plan, kR_planMany, kR_pointMany, kR_sign, kR_spanFrom, kR_spanTo, kR_stays, kR_thrown, kR_w, kR_xs, kR_ys] σ ss_.2.2.2 ∧ (RWp (σ_54 kR_plan) p_59 ss_.2.2.1 ss_.1 point_60 ss_.2.1) ∧ (ss_.2.2.2 kR_planMany 32 = σ_61 kR_planMany 32 + 2 + ss_.2.2.1) ∧ (∀ i, i < 65536 + σ_61 kR_planMany 32 + 2 → ss_.2.2.2 kR_plan i = σ_104 kR_plan i) ∧ (∀ j, 0 ≤ j → j < ss_.2.2.1 → 0 ≤ ss_.2.2.2 kR_plan (65536 + σ_61 kR_planMany 32 + 2 + j)) ∧ (ss_.2.2.2 kR_pointMany 32 = σ_104 kR_pointMany 32 + su_ (ss_.2.2.2 kR_plan) (65536 + σ_61 kR_planMany 32 + 2) ss_.2.2.1.toNat) ∧ (NF σ_54 ss_.2.2.2) ∧ (ss_.2.2.2 kR_pointMany 32 ≤ ss_.2.1 - 2048 * slot_0)) (fun ss_ => (4096 - ss_.2.2.1).toNat) ⟨hσ_104, frσ_104, (by (try dsimp only) <;> (first | exact hr0 | (rw [hx124]; exact r1))), (by (try dsimp only) <;> first | assumption | omega | ((try simp (disch := omega) only [w32_of, w64_of, w8_of]) <;> first | assumption | omega | (split <;> omega) | (refine And.intro ?_ ?_ <;> split <;> omega)) | omega), (by (try dsimp only) <;> (first | exact gA2 | (intro i hi; rfl))), (by (try dsimp only) <;> (first | exact gC2 | (intro j a b; exact absurd b (by omega)))), (by (try dsimp only) <;> (first | exact gD2 | (show _ = _ + (0 : Int); omega))), (by (try dsimp only) <;> (first | exact gn5 | exact gn4)), (by (try dsimp only) <;> first | assumption | omega | ((try simp (disch := omega) only [w32_of, w64_of, w8_of]) <;> first | assumption | omega | (split <;> omega) | (refine And.intro ?_ ?_ <;> split <;> omega)) | omega)⟩ ?_
                rintro ⟨p_106, point_107, k_108, σ_109⟩ y90
                try dsimp only at y90 ⊢
                obtain ⟨hσ_109, frσ_109, gr, g88, gA, gC, gD, gn, g89⟩ := y90
                have hrl := RW_le ho gr
                have hk0 : ¬ x_70 = 3 → k_108 = 0 := fun z => by rcases gr.2 with ⟨w, _⟩ | ⟨_, w, _⟩ <;> omega
                have c92 := w32_rng k_108
                have c93 := w32_rng x_72
                refine wp_if (fun c91 => ?_) (fun c91 => ?_)
                · try simp (disch := omega) only [w32_of, w64_of, w8_of, decide_eq_true_eq, decide_eq_false_iff_not, Bool.not_eq_true] at c91
                  obtain ⟨r1, r2, r3, r4, r5, r6⟩ := RW_go ho gr (by omega) (by omega)
                  have c94 := w32_rng p_106
                  refine wp_rdI (by (try dsimp only) <;> first | assumption | omega | ((try simp (disch := omega) only [w32_of, w64_of, w8_of]) <;> first | assumption | omega | (split <;> omega) | (refine And.intro ?_ ?_ <;> split <;> omega)) | omega) (by (try dsimp only) <;> first | assumption | omega | ((try simp (disch := omega) only [w32_of, w64_of, w8_of]) <;> first | assumption | omega | (split <;> omega) | (refine And.intro ?_ ?_ <;> split <;> omega)) | omega) (fun x_117 e_x_117 => ?_)
                  try simp (disch := omega) only [w32_of, w64_of, w8_of] at e_x_117
                  have hx117 : x_117 = σ_54 kR_plan p_106 := e_x_117.trans (gn.1 p_106 (by omega)).1
                  have c95 := ii_kR_pointMany hσ_109 32
                  refine wp_bd (v_keeps (σ := σ_109) (from_0 := point_107) (n_0 := x_117) (far_0 := (w32 distance_0)) hσ_109 (by (try dsimp only) <;> first | assumption | omega | ((try simp (disch := omega) only [w32_of, w64_of, w8_of]) <;> first | assumption | omega | (split <;> omega) | (refine And.intro ?_ ?_ <;> split <;> omega)) | omega) (by exact ⟨slot_0, by omega, by omega, by omega, by omega⟩) (by (try dsimp only) <;> first | assumption | omega | ((try simp (disch := omega) only [w32_of, w64_of, w8_of]) <;> first | assumption | omega | (split <;> omega) | (refine And.intro ?_ ?_ <;> split <;> omega)) | omega) (by (try dsimp only) <;> first | assumption | omega | ((try simp (disch := omega) only [w32_of, w64_of, w8_of]) <;> first | assumption | omega | (split <;> omega) | (refine And.intro ?_ ?_ <;> split <;> omega)) | omega) (by (try dsimp only) <;> first | assumption | omega | ((try simp (disch := omega) only [w32_of, w64_of, w8_of]) <;> first | assumption | omega | (split <;> omega) | (refine And.intro ?_ ?_ <;> split <;> omega)) | omega)) ?_
                  rintro ⟨x_121, σ_120⟩ - y96
                  try dsimp only at y96 ⊢
                  obtain ⟨hσ_120, flσ_120, ngσ_120, kv, kq⟩ := y96
                  have frσ_120 : FR [kR_limbs, kR_plan, kR_planMany, kR_pointMany, kR_sign, kR_spanFrom, kR_spanTo, kR_stays, kR_thrown, kR_w, kR_xs, kR_ys] σ σ_120 := FR_tr frσ_109 flσ_120 (by decide) (by decide)
                  try simp (disch := omega) only [w32_of, w64_of, w8_of] at kv
                  have c97 := ii_kR_pointMany hσ_120 32
                  try simp (disch := omega) only [w32_of, w64_of, w8_of] at kq
                  have m120 : σ_120 kR_planMany 32 = σ_109 kR_planMany 32 := FR_at flσ_120 (c := kR_planMany) (by decide) 32
                  have c98 := ii_kR_planMany hσ_120 32
                  have c99 := FR_at flσ_120 (c := kR_planMany) (by decide) 32
                  have c100 := ii_kR_planMany hσ_109 32
                  refine wp_bd (v_tell (σ := σ_120) (v_0 := x_121) hσ_120 (by (try dsimp only) <;> first | assumption | omega | ((try simp (disch := omega) only [w32_of, w64_of, w8_of]) <;> first | assumption | omega | (split <;> omega) | (refine And.intro ?_ ?_ <;> split <;> omega)) | omega)) ?_
                  rintro σ_123 - ⟨hσ_123, flσ_123, ngσ_123, t1, t2, t3⟩
                  have frσ_123 : FR [kR_limbs, kR_plan, kR_planMany, kR_pointMany, kR_sign, kR_spanFrom, kR_spanTo, kR_stays, kR_thrown, kR_w, kR_xs, kR_ys] σ σ_123 := FR_tr frσ_120 flσ_123 (by decide) (by decide)
                  have c101 := ii_kR_planMany hσ_123 32
                  try simp (disch := omega) only [w32_of, w64_of, w8_of] at t1
                  try simp (disch := omega) only [w32_of, w64_of, w8_of] at t2
                  try simp (disch := omega) only [w32_of, w64_of, w8_of] at t3
                  have po : ∀ i, i ≠ 65536 + σ_109 kR_planMany 32 → σ_123 kR_plan i = σ_109 kR_plan i := fun i h => by rw [t3 i (by omega), FR_at flσ_120 (c := kR_plan) (by decide)]
                  have pv : σ_123 kR_plan (65536 + σ_61 kR_planMany 32 + 2 + k_108) = x_121 := by rw [show 65536 + σ_61 kR_planMany 32 + 2 + k_108 = 65536 + σ_120 kR_planMany 32 by omega]; exact t2
                  have q123 : σ_123 kR_pointMany 32 = σ_120 kR_pointMany 32 := FR_at flσ_123 (c := kR_pointMany) (by decide) 32
                  have gA2 : ∀ i, i < 65536 + σ_61 kR_planMany 32 + 2 → σ_123 kR_plan i = σ_104 kR_plan i := fun i hi => by rw [po i (by omega)]; exact gA i hi
                  have gC2 : ∀ j, 0 ≤ j → j < k_108 + 1 → 0 ≤ σ_123 kR_plan (65536 + σ_61 kR_planMany 32 + 2 + j) := fun j a b => by
                    by_cases q : j = k_108
                    · rw [q, pv]; omega
                    · rw [po _ (by omega)]; exact gC j a (by omega)
                  have gD2 : σ_123 kR_pointMany 32 = σ_104 kR_pointMany 32 + su_ (σ_123 kR_plan) (65536 + σ_61 kR_planMany 32 + 2) (k_108 + 1).toNat := by
                    rw [su_i (by omega), pv, su_cg (pm := σ_109 kR_plan) (fun i a b => po i (by omega)), q123]; omega
                  have gn5 : NF σ_54 σ_123 := NF_tr (NF_tr gn ngσ_120) ngσ_123
                  refine wp_rdI (by (try dsimp only) <;> first | assumption | omega | ((try simp (disch := omega) only [w32_of, w64_of, w8_of]) <;> first | assumption | omega | (split <;> omega) | (refine And.intro ?_ ?_ <;> split <;> omega)) | omega) (by (try dsimp only) <;> first | assumption | omega | ((try simp (disch := omega) only [w32_of, w64_of, w8_of]) <;> first | assumption | omega | (split <;> omega) | (refine And.intro ?_ ?_ <;> split <;> omega)) | omega) (fun x_124 e_x_124 => ?_)
                  try simp (disch := omega) only [w32_of, w64_of, w8_of] at e_x_124
                  have hx124 : x_124 = σ_54 kR_plan p_106 := e_x_124.trans (gn5.1 p_106 (by omega)).1
                  have c102 := ii_kR_pointMany hσ_123 32
                  have c103 := FR_at flσ_123 (c := kR_pointMany) (by decide) 32
                  exact wp_some (x_inl ⟨⟨hσ_123, frσ_123, (by (try dsimp only) <;> (first | exact hr0 | (rw [hx124]; exact r1))), (by (try dsimp only) <;> first | assumption | omega | ((try simp (disch := omega) only [w32_of, w64_of, w8_of]) <;> first | assumption | omega | (split <;> omega) | (refine And.intro ?_ ?_ <;> split <;> omega)) | omega), (by (try dsimp only) <;> (first | exact gA2 | (intro i hi; rfl))), (by (try dsimp only) <;> (first | exact gC2 | (intro j a b; exact absurd b (by omega)))), (by (try dsimp only) <;> (first | exact gD2 | (show _ = _ + (0 : Int); omega))), (by (try dsimp only) <;> (first | exact gn5 | exact gn4)), (by (try dsimp only) <;> first | assumption | omega | ((try simp (disch := omega) only [w32_of, w64_of, w8_of]) <;> first | assumption | omega | (split <;> omega) | (refine And.intro ?_ ?_ <;> split <;> omega)) | omega)⟩, (by (try dsimp only) <;> first | assumption | omega | ((try simp (disch := omega) only [w32_of, w64_of, w8_of]) <;> first | assumption | omega | (split <;> omega) | (refine And.intro ?_ ?_ <;> split <;> omega)) | omega)⟩)
                · try simp (disch := omega) only [w32_of, w64_of, w8_of, decide_eq_true_eq, decide_eq_false_iff_not, Bool.not_eq_true] at c91
                  obtain ⟨r1, r2⟩ := RW_end ho gr (by omega)
                  have c1 : σ_109 kR_plan (65536 + σ_61 kR_planMany 32) = x_70 := by rw [gA _ (by omega)]; exact d1
                  have c2 : σ_109 kR_plan (65536 + σ_61 kR_planMany 32 + 1) = x_72 := by rw [gA _ (by omega)]; exact d2
                  have gs3 : SMs σ_54 σ_109 slot_0 (p_59 + eL (σ_54 kR_plan) p_59) := by
                    by_cases q : x_70 = 3
                    · have l0 := el_3 (pl := σ_54 kR_plan) (p := p_59) (by omega)
                      have hk : k_108 = x_72 := by omega
                      have l := el_3 (pl := σ_109 kR_plan) (p := 65536 + σ_61 kR_planMany 32) (by omega)
                      have e : eP (σ_109 kR_plan) (65536 + σ_61 kR_planMany 32) = su_ (σ_109 kR_plan) (65536 + σ_61 kR_planMany 32 + 2) k_108.toNat := by
                        unfold eP
                        rw [if_neg (by omega), if_pos (by omega), c2, hk]
                      exact SMs_go gs ⟨by omega, by omega, by rw [c2]; omega, fun z => by omega, fun _ j a b => gC j a (by omega)⟩ (by omega) (by rw [e]; omega) (by omega) (fun z => by omega) (fun i hi => by rw [gA i (by omega)]; exact d3 i hi)
                    · have hk := hk0 q
                      have gz : su_ (σ_109 kR_plan) (65536 + σ_61 kR_planMany 32 + 2) k_108.toNat = 0 := by rw [hk]; rfl
                      have l := el_n (pl := σ_109 kR_plan) (p := 65536 + σ_61 kR_planMany 32) (by omega)
                      have e : σ_109 kR_pointMany 32 = σ_61 kR_pointMany 32 + eP (σ_109 kR_plan) (65536 + σ_61 kR_planMany 32) := by
                        by_cases q1 : x_70 = 1
                        · rw [ep_l (by omega), c2]; omega
                        · rw [ep_g (by omega)]; omega
                      exact SMs_go gs ⟨by omega, by omega, by rw [c2]; omega, fun z => by omega, fun z => by omega⟩ (by omega) e (by omega) (fun z => by omega) (fun i hi => by rw [gA i (by omega)]; exact d3 i hi)
                  have c104 := ii_kR_pointMany hσ_109 32
                  exact wp_some (x_inr ⟨hσ_109, frσ_109, (by (try dsimp only) <;> (rw [r1, r2]; exact hn)), (by (try dsimp only) <;> (rw [r1]; exact gs3)), (by (try dsimp only) <;> (exact gn)), (by (try dsimp only) <;> first | assumption | omega | ((try simp (disch := omega) only [w32_of, w64_of, w8_of]) <;> first | assumption | omega | (split <;> omega) | (refine And.intro ?_ ?_ <;> split <;> omega)) | omega), (by (try dsimp only) <;> first | assumption | omega | ((try simp (disch := omega) only [w32_of, w64_of, w8_of]) <;> first | assumption | omega | (split <;> omega) | (refine And.intro ?_ ?_ <;> split <;> omega)) | omega)⟩)
              rintro ⟨p_135, point_136, k_137, σ_138⟩ _ y107
              try dsimp only at y107 ⊢
              obtain ⟨hσ_138, frσ_138, gw2, gs2, gn2, g105, g106⟩ := y107
              have c108 := ii_kR_pointMany hσ_138 32
              exact wp_some (x_inl ⟨⟨hσ_138, frσ_138, (by (try dsimp only) <;> (first | exact gw2 | exact FLw_0 (s54 _ (by omega) (by omega)))), (by (try dsimp only) <;> (first | exact gn2 | exact NF_refl _)), (by (try dsimp only) <;> (first | exact gs2 | exact SMs_0 gc1 gc2)), (by (try dsimp only) <;> first | assumption | omega | ((try simp (disch := omega) only [w32_of, w64_of, w8_of]) <;> first | assumption | omega | (split <;> omega) | (refine And.intro ?_ ?_ <;> split <;> omega)) | omega)⟩, (by (try dsimp only) <;> first | assumption | omega | ((try simp (disch := omega) only [w32_of, w64_of, w8_of]) <;> first | assumption | omega | (split <;> omega) | (refine And.intro ?_ ?_ <;> split <;> omega)) | omega)⟩)
          · try simp (disch := omega) only [w32_of, w64_of, w8_of, decide_eq_true_eq, decide_eq_false_iff_not, Bool.not_eq_true] at c39
            exact wp_some (x_inr ⟨hσ_61, frσ_61, (by (try dsimp only) <;> (rw [show 2048 * slot_0 + σ_54 kR_planMany slot_0 = p_59 by omega]; exact gs)), (by (try dsimp only) <;> (exact gn))⟩)
        rintro ⟨p_144, point_145, σ_146⟩ _ y109
        try dsimp only at y109 ⊢
        obtain ⟨hσ_146, frσ_146, gs, gn⟩ := y109
        have s146 : SHs σ_146 := NF_SHs hσ_54 gn s54
        have sh54 := s54 slot_0 (by omega) (by omega)
        have sn : SHn σ_146 := SMs_SH sh54 (by rcases id sh54 with h | h <;> omega) gs
        refine wp_bd (v_move (σ := σ_146) (from_0 := 32) (to_0 := to_0) hσ_146 (by (try dsimp only) <;> first | assumption | omega | ((try simp (disch := omega) only [w32_of, w64_of, w8_of]) <;> first | assumption | omega | (split <;> omega) | (refine And.intro ?_ ?_ <;> split <;> omega)) | omega) (by (try dsimp only) <;> first | assumption | omega | ((try simp (disch := omega) only [w32_of, w64_of, w8_of]) <;> first | assumption | omega | (split <;> omega) | (refine And.intro ?_ ?_ <;> split <;> omega)) | omega) (by (try dsimp only) <;> first | assumption | omega | ((try simp (disch := omega) only [w32_of, w64_of, w8_of]) <;> first | assumption | omega | (split <;> omega) | (refine And.intro ?_ ?_ <;> split <;> omega)) | omega)) ?_
        rintro σ_148 - ⟨hσ_148, flσ_148, gm⟩
        have frσ_148 : FR [kR_limbs, kR_plan, kR_planMany, kR_pointMany, kR_sign, kR_spanFrom, kR_spanTo, kR_stays, kR_thrown, kR_w, kR_xs, kR_ys] σ σ_148 := FR_tr frσ_146 flσ_148 (by decide) (by decide)
        try simp (disch := omega) only [w32_of, w64_of, w8_of] at gm
        have s148 : SHs σ_148 := MV_SHs hσ_146 gm (SHn_SH sn) s146
        have c110 := w32_rng to_0
        refine wp_rdI (by (try dsimp only) <;> first | assumption | omega | ((try simp (disch := omega) only [w32_of, w64_of, w8_of]) <;> first | assumption | omega | (split <;> omega) | (refine And.intro ?_ ?_ <;> split <;> omega)) | omega) (by (try dsimp only) <;> first | assumption | omega | ((try simp (disch := omega) only [w32_of, w64_of, w8_of]) <;> first | assumption | omega | (split <;> omega) | (refine And.intro ?_ ?_ <;> split <;> omega)) | omega) (fun x_149 e_x_149 => ?_)
        have b_x_149 : 0 ≤ x_149 ∧ x_149 ≤ 2048 := by rw [e_x_149]; exact ii_kR_pointMany hσ_148 _
        try simp (disch := omega) only [w32_of, w64_of, w8_of] at e_x_149
        have c111 := ii_kR_pointMany hσ_148 to_0
        exact wp_some ⟨hσ_148, frσ_148, (by (try dsimp only) <;> (first | exact s148 | exact s50 | exact s45 | exact s35))⟩
