theorem v_tellOut {σ : SG} {out_0 : Int} (hσ : II σ) (qout_0 : 0 ≤ out_0 ∧ out_0 ≤ 8192) (w0 : OC σ) (w1 : out_0 < σ kR_outs 0) (w2 : 0 < σ kR_outMany out_0) (w3 : σ kR_corners 0 ≤ 16384) : wp_ (fR_tellOut σ out_0) (fun zz_ => II zz_.2 ∧ FR [kR_plan, kR_planMany, kR_pointMany, kR_xs, kR_ys] σ zz_.2 ∧ NF σ zz_.2 ∧ ((zz_.1 = true) → TO_ σ zz_.2 (σ kR_outMany out_0 + 1))) := by
  unfold fR_tellOut
  have c1 := ii_kR_outs hσ 0
  have c2 := ii_kR_outMany hσ out_0
  have c3 := ii_kR_corners hσ 0
  obtain ⟨oc1, oc2, oc3, oc4⟩ := w0 out_0 (by omega) w1
  refine wp_rdI (by (try dsimp only) <;> first | assumption | omega | ((try simp (disch := omega) only [w32_of, w64_of, w8_of]) <;> first | assumption | omega | (split <;> omega) | (refine And.intro ?_ ?_ <;> split <;> omega)) | omega) (by (try dsimp only) <;> first | assumption | omega | ((try simp (disch := omega) only [w32_of, w64_of, w8_of]) <;> first | assumption | omega | (split <;> omega) | (refine And.intro ?_ ?_ <;> split <;> omega)) | omega) (fun x_12 e_x_12 => ?_)
  have b_x_12 : 0 ≤ x_12 ∧ x_12 ≤ 2048 := by rw [e_x_12]; exact ii_kR_planMany hσ _
  try simp (disch := omega) only [w32_of, w64_of, w8_of] at e_x_12
  have c4 := ii_kR_planMany hσ 32
  have c6 := w32_rng (x_12 + 1)
  refine wp_if (fun c5 => ?_) (fun c5 => ?_)
  · try simp (disch := omega) only [w32_of, w64_of, w8_of, decide_eq_true_eq, decide_eq_false_iff_not, Bool.not_eq_true] at c5
    exact wp_some ⟨hσ, (FR_refl _ _), (NF_refl _), (fun q => (by cases q))⟩
  · try simp (disch := omega) only [w32_of, w64_of, w8_of, decide_eq_true_eq, decide_eq_false_iff_not, Bool.not_eq_true] at c5
    refine wp_rdI (by (try dsimp only) <;> first | assumption | omega | ((try simp (disch := omega) only [w32_of, w64_of, w8_of]) <;> first | assumption | omega | (split <;> omega) | (refine And.intro ?_ ?_ <;> split <;> omega)) | omega) (by (try dsimp only) <;> first | assumption | omega | ((try simp (disch := omega) only [w32_of, w64_of, w8_of]) <;> first | assumption | omega | (split <;> omega) | (refine And.intro ?_ ?_ <;> split <;> omega)) | omega) (fun x_15 e_x_15 => ?_)
    have b_x_15 : 0 ≤ x_15 ∧ x_15 ≤ 2048 := by rw [e_x_15]; exact ii_kR_pointMany hσ _
    try simp (disch := omega) only [w32_of, w64_of, w8_of] at e_x_15
    have c7 := ii_kR_pointMany hσ 32
    have c8 := w32_rng out_0
    refine wp_rdI (by (try dsimp only) <;> first | assumption | omega | ((try simp (disch := omega) only [w32_of, w64_of, w8_of]) <;> first | assumption | omega | (split <;> omega) | (refine And.intro ?_ ?_ <;> split <;> omega)) | omega) (by (try dsimp only) <;> first | assumption | omega | ((try simp (disch := omega) only [w32_of, w64_of, w8_of]) <;> first | assumption | omega | (split <;> omega) | (refine And.intro ?_ ?_ <;> split <;> omega)) | omega) (fun x_17 e_x_17 => ?_)
    have b_x_17 : 0 ≤ x_17 ∧ x_17 ≤ 33000 := by rw [e_x_17]; exact ii_kR_outMany hσ _
    try simp (disch := omega) only [w32_of, w64_of, w8_of] at e_x_17
    have c10 := w32_rng ((x_15 + x_17) + 1)
    refine wp_if (fun c9 => ?_) (fun c9 => ?_)
    · try simp (disch := omega) only [w32_of, w64_of, w8_of, decide_eq_true_eq, decide_eq_false_iff_not, Bool.not_eq_true] at c9
      exact wp_some ⟨hσ, (FR_refl _ _), (NF_refl _), (fun q => (by cases q))⟩
    · try simp (disch := omega) only [w32_of, w64_of, w8_of, decide_eq_true_eq, decide_eq_false_iff_not, Bool.not_eq_true] at c9
      refine wp_rdI (by (try dsimp only) <;> first | assumption | omega | ((try simp (disch := omega) only [w32_of, w64_of, w8_of]) <;> first | assumption | omega | (split <;> omega) | (refine And.intro ?_ ?_ <;> split <;> omega)) | omega) (by (try dsimp only) <;> first | assumption | omega | ((try simp (disch := omega) only [w32_of, w64_of, w8_of]) <;> first | assumption | omega | (split <;> omega) | (refine And.intro ?_ ?_ <;> split <;> omega)) | omega) (fun x_20 e_x_20 => ?_)
      have b_x_20 : 0 ≤ x_20 ∧ x_20 ≤ 33000 := by rw [e_x_20]; exact ii_kR_outMany hσ _
      try simp (disch := omega) only [w32_of, w64_of, w8_of] at e_x_20
      refine wp_bd (v_tell (σ := σ) (v_0 := (x_20 + 1)) hσ (by (try dsimp only) <;> first | assumption | omega | ((try simp (disch := omega) only [w32_of, w64_of, w8_of]) <;> first | assumption | omega | (split <;> omega) | (refine And.intro ?_ ?_ <;> split <;> omega)) | omega)) ?_
      rintro σ_23 - ⟨hσ_23, flσ_23, ngσ_23, t1, t2, t3⟩
      have frσ_23 : FR [kR_plan, kR_planMany, kR_pointMany, kR_xs, kR_ys] σ σ_23 := FR_le flσ_23 (by decide)
      have nfσ_23 : NF σ σ_23 := NF_tr (NF_refl _) ngσ_23
      have c11 := ii_kR_planMany hσ_23 32
      try simp (disch := omega) only [w32_of, w64_of, w8_of] at t1
      try simp (disch := omega) only [w32_of, w64_of, w8_of] at t2
      try simp (disch := omega) only [w32_of, w64_of, w8_of] at t3
      have p0 : σ_23 kR_pointMany 32 = σ kR_pointMany 32 := FR_at flσ_23 (c := kR_pointMany) (by decide) 32
      refine wp_bd (P := fun rr_ => (1 ≤ rr_.1 ∧ rr_.1 ≤ 65535) ∧ II rr_.2 ∧ FR [kR_plan, kR_planMany, kR_pointMany, kR_xs, kR_ys] σ rr_.2 ∧ NF σ rr_.2 ∧ (rr_.2 kR_pointMany 32 = σ kR_pointMany 32 + σ kR_outMany out_0 + 1) ∧ (rr_.2 kR_plan = σ_23 kR_plan) ∧ (rr_.2 kR_planMany = σ_23 kR_planMany)) ?_ ?_
      · have c12 := ii_kR_pointMany hσ_23 32
        have c13 := FR_at flσ_23 (c := kR_pointMany) (by decide) 32
        refine wp_whl (fun ss_ => (0 ≤ ss_.1 ∧ ss_.1 ≤ 65535) ∧ II ss_.2 ∧ FR [kR_plan, kR_planMany, kR_pointMany, kR_xs, kR_ys] σ ss_.2 ∧ NF σ ss_.2 ∧ (ss_.1 ≤ σ kR_outMany out_0 + 1) ∧ (ss_.2 kR_pointMany 32 = σ kR_pointMany 32 + ss_.1) ∧ (ss_.2 kR_plan = σ_23 kR_plan) ∧ (ss_.2 kR_planMany = σ_23 kR_planMany)) (fun ss_ => (65536 - ss_.1).toNat) ⟨(by (try dsimp only) <;> first | assumption | omega | ((try simp (disch := omega) only [w32_of, w64_of, w8_of]) <;> first | assumption | omega | (split <;> omega) | (refine And.intro ?_ ?_ <;> split <;> omega)) | omega), hσ_23, frσ_23, nfσ_23, (by (try dsimp only) <;> first | assumption | omega | ((try simp (disch := omega) only [w32_of, w64_of, w8_of]) <;> first | assumption | omega | (split <;> omega) | (refine And.intro ?_ ?_ <;> split <;> omega)) | omega), (by (try dsimp only) <;> first | assumption | omega | ((try simp (disch := omega) only [w32_of, w64_of, w8_of]) <;> first | assumption | omega | (split <;> omega) | (refine And.intro ?_ ?_ <;> split <;> omega)) | omega), (by (try dsimp only) <;> (first | rfl | (rw [← gP]; funext i; exact FR_at flσ_48 (by decide) i))), (by (try dsimp only) <;> (first | rfl | (rw [← gM]; funext i; exact FR_at flσ_48 (by decide) i)))⟩ ?_
        rintro ⟨k_24, σ_25⟩ y17
        try dsimp only at y17 ⊢
        obtain ⟨g14, hσ_25, frσ_25, nfσ_25, g15, g16, gP, gM⟩ := y17
        refine wp_rdI (by (try dsimp only) <;> first | assumption | omega | ((try simp (disch := omega) only [w32_of, w64_of, w8_of]) <;> first | assumption | omega | (split <;> omega) | (refine And.intro ?_ ?_ <;> split <;> omega)) | omega) (by (try dsimp only) <;> first | assumption | omega | ((try simp (disch := omega) only [w32_of, w64_of, w8_of]) <;> first | assumption | omega | (split <;> omega) | (refine And.intro ?_ ?_ <;> split <;> omega)) | omega) (fun x_33 e_x_33 => ?_)
        have b_x_33 : 0 ≤ x_33 ∧ x_33 ≤ 33000 := by rw [e_x_33]; exact ii_kR_outMany hσ_25 _
        rw [FR_at frσ_25 (c := kR_outMany) (by decide)] at e_x_33
        try simp (disch := omega) only [w32_of, w64_of, w8_of] at e_x_33
        have c18 := ii_kR_outMany hσ_25 out_0
        have c19 := FR_at frσ_25 (c := kR_outMany) (by decide) out_0
        have c21 := w32_rng k_24
        have c22 := w32_rng x_33
        refine wp_if (fun c20 => ?_) (fun c20 => ?_)
        · try simp (disch := omega) only [w32_of, w64_of, w8_of, decide_eq_true_eq, decide_eq_false_iff_not, Bool.not_eq_true] at c20
          refine wp_rdI (by (try dsimp only) <;> first | assumption | omega | ((try simp (disch := omega) only [w32_of, w64_of, w8_of]) <;> first | assumption | omega | (split <;> omega) | (refine And.intro ?_ ?_ <;> split <;> omega)) | omega) (by (try dsimp only) <;> first | assumption | omega | ((try simp (disch := omega) only [w32_of, w64_of, w8_of]) <;> first | assumption | omega | (split <;> omega) | (refine And.intro ?_ ?_ <;> split <;> omega)) | omega) (fun x_36 e_x_36 => ?_)
          have b_x_36 : 0 ≤ x_36 ∧ x_36 ≤ 33000 := by rw [e_x_36]; exact ii_kR_outFrom hσ_25 _
          rw [FR_at frσ_25 (c := kR_outFrom) (by decide)] at e_x_36
          try simp (disch := omega) only [w32_of, w64_of, w8_of] at e_x_36
          have c23 := ii_kR_outFrom hσ_25 out_0
          have c24 := FR_at frσ_25 (c := kR_outFrom) (by decide) out_0
          have c25 := ii_kR_outFrom hσ out_0
          refine wp_rdI (by (try dsimp only) <;> first | assumption | omega | ((try simp (disch := omega) only [w32_of, w64_of, w8_of]) <;> first | assumption | omega | (split <;> omega) | (refine And.intro ?_ ?_ <;> split <;> omega)) | omega) (by (try dsimp only) <;> first | assumption | omega | ((try simp (disch := omega) only [w32_of, w64_of, w8_of]) <;> first | assumption | omega | (split <;> omega) | (refine And.intro ?_ ?_ <;> split <;> omega)) | omega) (fun x_38 e_x_38 => ?_)
          have b_x_38 : 0 ≤ x_38 ∧ x_38 ≤ 33000 := by rw [e_x_38]; exact ii_kR_outMany hσ_25 _
          rw [FR_at frσ_25 (c := kR_outMany) (by decide)] at e_x_38
          try simp (disch := omega) only [w32_of, w64_of, w8_of] at e_x_38
          have c26 := w32_rng x_38
          refine wp_ck (by (try dsimp only) <;> first | assumption | omega | ((try simp (disch := omega) only [w32_of, w64_of, w8_of]) <;> first | assumption | omega | (split <;> omega) | (refine And.intro ?_ ?_ <;> split <;> omega)) | omega) ?_
          have hirm := irm_in (x := k_24) (n := x_38) (by omega) (by omega) (by omega) (by omega)
          have c27 := q_irm_bd k_24 x_38 (by (try dsimp only) <;> first | assumption | omega | ((try simp (disch := omega) only [w32_of, w64_of, w8_of]) <;> first | assumption | omega | (split <;> omega) | (refine And.intro ?_ ?_ <;> split <;> omega)) | omega)
          try simp (disch := omega) only [w32_of, w64_of, w8_of] at c27
          have c28 := w32_rng (x_36 + (q_irm k_24 x_38))
          refine wp_rdI (by (try dsimp only) <;> first | assumption | omega | ((try simp (disch := omega) only [w32_of, w64_of, w8_of]) <;> first | assumption | omega | (split <;> omega) | (refine And.intro ?_ ?_ <;> split <;> omega)) | omega) (by (try dsimp only) <;> first | assumption | omega | ((try simp (disch := omega) only [w32_of, w64_of, w8_of]) <;> first | assumption | omega | (split <;> omega) | (refine And.intro ?_ ?_ <;> split <;> omega)) | omega) (fun x_41 e_x_41 => ?_)
          have b_x_41 : 0 ≤ x_41 ∧ x_41 ≤ 8191 := by rw [e_x_41]; exact ii_kR_corner hσ_25 _
          rw [FR_at frσ_25 (c := kR_corner) (by decide)] at e_x_41
          try simp (disch := omega) only [w32_of, w64_of, w8_of] at e_x_41
          have c29 := ii_kR_corner hσ_25 (x_36 + (q_irm k_24 x_38))
          have c30 := FR_at frσ_25 (c := kR_corner) (by decide) (x_36 + (q_irm k_24 x_38))
          have c31 := ii_kR_corner hσ (x_36 + (q_irm k_24 x_38))
          have c32 := w32_rng x_41
          refine wp_rdI (by (try dsimp only) <;> first | assumption | omega | ((try simp (disch := omega) only [w32_of, w64_of, w8_of]) <;> first | assumption | omega | (split <;> omega) | (refine And.intro ?_ ?_ <;> split <;> omega)) | omega) (by (try dsimp only) <;> first | assumption | omega | ((try simp (disch := omega) only [w32_of, w64_of, w8_of]) <;> first | assumption | omega | (split <;> omega) | (refine And.intro ?_ ?_ <;> split <;> omega)) | omega) (fun x_43 e_x_43 => ?_)
          have b_x_43 : (-1000000000) ≤ x_43 ∧ x_43 ≤ 1000000000 := by rw [e_x_43]; exact ii_kR_hotX hσ_25 _
          rw [FR_at frσ_25 (c := kR_hotX) (by decide)] at e_x_43
          try simp (disch := omega) only [w32_of, w64_of, w8_of] at e_x_43
          have c33 := ii_kR_hotX hσ_25 x_41
          have c34 := FR_at frσ_25 (c := kR_hotX) (by decide) x_41
          have c35 := ii_kR_hotX hσ x_41
          refine wp_rdI (by (try dsimp only) <;> first | assumption | omega | ((try simp (disch := omega) only [w32_of, w64_of, w8_of]) <;> first | assumption | omega | (split <;> omega) | (refine And.intro ?_ ?_ <;> split <;> omega)) | omega) (by (try dsimp only) <;> first | assumption | omega | ((try simp (disch := omega) only [w32_of, w64_of, w8_of]) <;> first | assumption | omega | (split <;> omega) | (refine And.intro ?_ ?_ <;> split <;> omega)) | omega) (fun x_45 e_x_45 => ?_)
          have b_x_45 : (-1000000000) ≤ x_45 ∧ x_45 ≤ 1000000000 := by rw [e_x_45]; exact ii_kR_hotY hσ_25 _
          rw [FR_at frσ_25 (c := kR_hotY) (by decide)] at e_x_45
          try simp (disch := omega) only [w32_of, w64_of, w8_of] at e_x_45
          have c36 := ii_kR_hotY hσ_25 x_41
          have c37 := FR_at frσ_25 (c := kR_hotY) (by decide) x_41
          have c38 := ii_kR_hotY hσ x_41
          have c39 := ii_kR_pointMany hσ_25 32
          refine wp_bd (v_dot (σ := σ_25) (x_0 := x_43) (y_0 := x_45) hσ_25 (by (try dsimp only) <;> first | assumption | omega | ((try simp (disch := omega) only [w32_of, w64_of, w8_of]) <;> first | assumption | omega | (split <;> omega) | (refine And.intro ?_ ?_ <;> split <;> omega)) | omega) (by (try dsimp only) <;> first | assumption | omega | ((try simp (disch := omega) only [w32_of, w64_of, w8_of]) <;> first | assumption | omega | (split <;> omega) | (refine And.intro ?_ ?_ <;> split <;> omega)) | omega) (by (try dsimp only) <;> first | assumption | omega | ((try simp (disch := omega) only [w32_of, w64_of, w8_of]) <;> first | assumption | omega | (split <;> omega) | (refine And.intro ?_ ?_ <;> split <;> omega)) | omega) (by (try dsimp only) <;> first | assumption | omega | ((try simp (disch := omega) only [w32_of, w64_of, w8_of]) <;> first | assumption | omega | (split <;> omega) | (refine And.intro ?_ ?_ <;> split <;> omega)) | omega) (by (try dsimp only) <;> first | assumption | omega | ((try simp (disch := omega) only [w32_of, w64_of, w8_of]) <;> first | assumption | omega | (split <;> omega) | (refine And.intro ?_ ?_ <;> split <;> omega)) | omega)) ?_
          rintro σ_48 - ⟨hσ_48, flσ_48, ngσ_48, d1⟩
          have frσ_48 : FR [kR_plan, kR_planMany, kR_pointMany, kR_xs, kR_ys] σ σ_48 := FR_tr frσ_25 flσ_48 (by decide) (by decide)
          have nfσ_48 : NF σ σ_48 := NF_tr nfσ_25 ngσ_48
          have c40 := ii_kR_pointMany hσ_48 32
          try simp (disch := omega) only [w32_of, w64_of, w8_of] at d1
          exact wp_some (x_inl ⟨⟨(by (try dsimp only) <;> first | assumption | omega | ((try simp (disch := omega) only [w32_of, w64_of, w8_of]) <;> first | assumption | omega | (split <;> omega) | (refine And.intro ?_ ?_ <;> split <;> omega)) | omega), hσ_48, frσ_48, nfσ_48, (by (try dsimp only) <;> first | assumption | omega | ((try simp (disch := omega) only [w32_of, w64_of, w8_of]) <;> first | assumption | omega | (split <;> omega) | (refine And.intro ?_ ?_ <;> split <;> omega)) | omega), (by (try dsimp only) <;> first | assumption | omega | ((try simp (disch := omega) only [w32_of, w64_of, w8_of]) <;> first | assumption | omega | (split <;> omega) | (refine And.intro ?_ ?_ <;> split <;> omega)) | omega), (by (try dsimp only) <;> (first | rfl | (rw [← gP]; funext i; exact FR_at flσ_48 (by decide) i))), (by (try dsimp only) <;> (first | rfl | (rw [← gM]; funext i; exact FR_at flσ_48 (by decide) i)))⟩, (by (try dsimp only) <;> first | assumption | omega | ((try simp (disch := omega) only [w32_of, w64_of, w8_of]) <;> first | assumption | omega | (split <;> omega) | (refine And.intro ?_ ?_ <;> split <;> omega)) | omega)⟩)
        · try simp (disch := omega) only [w32_of, w64_of, w8_of, decide_eq_true_eq, decide_eq_false_iff_not, Bool.not_eq_true] at c20
          have c41 := ii_kR_pointMany hσ_25 32
          exact wp_some (x_inr ⟨(by (try dsimp only) <;> first | assumption | omega | ((try simp (disch := omega) only [w32_of, w64_of, w8_of]) <;> first | assumption | omega | (split <;> omega) | (refine And.intro ?_ ?_ <;> split <;> omega)) | omega), hσ_25, frσ_25, nfσ_25, (by (try dsimp only) <;> first | assumption | omega | ((try simp (disch := omega) only [w32_of, w64_of, w8_of]) <;> first | assumption | omega | (split <;> omega) | (refine And.intro ?_ ?_ <;> split <;> omega)) | omega), (by (try dsimp only) <;> (exact gP)), (by (try dsimp only) <;> (exact gM))⟩)
      rintro ⟨k_51, σ_52⟩ _ y44
      try dsimp only at y44 ⊢
      obtain ⟨g42, hσ_52, frσ_52, nfσ_52, g43, gP, gM⟩ := y44
      have to : TO_ σ σ_52 (σ kR_outMany out_0 + 1) := ⟨by rw [gM]; exact t1, by rw [gP]; omega, by omega, by omega, fun i hi => by rw [gP]; exact t3 i hi⟩
      exact wp_some ⟨hσ_52, frσ_52, nfσ_52, (by (try dsimp only) <;> (first | (intro h; exact absurd h (by decide)) | (intro _; exact to)))⟩
theorem v_tellPolygon {σ : SG} {shell_0 : Int} (hσ : II σ) (qshell_0 : 0 ≤ shell_0 ∧ shell_0 ≤ 8192) (w0 : OC σ) (w1 : shell_0 < σ kR_outs 0) (w2 : 0 < σ kR_outMany shell_0) (w3 : σ kR_corners 0 ≤ 16384) (w4 : 2 ≤ σ kR_planMany 32) : wp_ (fR_tellPolygon σ shell_0) (fun zz_ => II zz_.2 ∧ FR [kR_plan, kR_planMany, kR_pointMany, kR_xs, kR_ys] σ zz_.2 ∧ NF σ zz_.2 ∧ ((zz_.1 = true) → PGt σ zz_.2)) := by
  unfold fR_tellPolygon
  have c1 := ii_kR_outs hσ 0
  have c2 := ii_kR_outMany hσ shell_0
  have c3 := ii_kR_corners hσ 0
  have c4 := ii_kR_planMany hσ 32
  refine wp_rdI (by (try dsimp only) <;> first | assumption | omega | ((try simp (disch := omega) only [w32_of, w64_of, w8_of]) <;> first | assumption | omega | (split <;> omega) | (refine And.intro ?_ ?_ <;> split <;> omega)) | omega) (by (try dsimp only) <;> first | assumption | omega | ((try simp (disch := omega) only [w32_of, w64_of, w8_of]) <;> first | assumption | omega | (split <;> omega) | (refine And.intro ?_ ?_ <;> split <;> omega)) | omega) (fun x_1 e_x_1 => ?_)
  have b_x_1 : 0 ≤ x_1 ∧ x_1 ≤ 2048 := by rw [e_x_1]; exact ii_kR_planMany hσ _
  try simp (disch := omega) only [w32_of, w64_of, w8_of] at e_x_1
  have c6 := w32_rng (x_1 + 2)
  refine wp_if (fun c5 => ?_) (fun c5 => ?_)
  · try simp (disch := omega) only [w32_of, w64_of, w8_of, decide_eq_true_eq, decide_eq_false_iff_not, Bool.not_eq_true] at c5
    exact wp_some ⟨hσ, (FR_refl _ _), (NF_refl _), (fun q => (by cases q))⟩
  · try simp (disch := omega) only [w32_of, w64_of, w8_of, decide_eq_true_eq, decide_eq_false_iff_not, Bool.not_eq_true] at c5
    refine wp_bd (v_more (σ := σ) (number_0 := 1) hσ (by (try dsimp only) <;> first | assumption | omega | ((try simp (disch := omega) only [w32_of, w64_of, w8_of]) <;> first | assumption | omega | (split <;> omega) | (refine And.intro ?_ ?_ <;> split <;> omega)) | omega) (by (try dsimp only) <;> first | assumption | omega | ((try simp (disch := omega) only [w32_of, w64_of, w8_of]) <;> first | assumption | omega | (split <;> omega) | (refine And.intro ?_ ?_ <;> split <;> omega)) | omega)) ?_
    rintro σ_5 - ⟨hσ_5, flσ_5, ngσ_5, m1, m2⟩
    have frσ_5 : FR [kR_plan, kR_planMany, kR_pointMany, kR_xs, kR_ys] σ σ_5 := FR_le flσ_5 (by decide)
    have nfσ_5 : NF σ σ_5 := NF_tr (NF_refl _) ngσ_5
    try simp (disch := omega) only [w32_of, w64_of, w8_of] at m1
    try simp (disch := omega) only [w32_of, w64_of, w8_of] at m2
    have a1 := m1
    have a2 := m2
    have q5 : σ_5 kR_planMany 32 = σ kR_planMany 32 := FR_at flσ_5 (c := kR_planMany) (by decide) 32
    have q6 : σ_5 kR_pointMany 32 = σ kR_pointMany 32 := FR_at flσ_5 (c := kR_pointMany) (by decide) 32
    have c7 := ii_kR_planMany hσ_5 32
    have c8 := FR_at flσ_5 (c := kR_planMany) (by decide) 32
    refine wp_bd (v_tell (σ := σ_5) (v_0 := 3) hσ_5 (by (try dsimp only) <;> first | assumption | omega | ((try simp (disch := omega) only [w32_of, w64_of, w8_of]) <;> first | assumption | omega | (split <;> omega) | (refine And.intro ?_ ?_ <;> split <;> omega)) | omega)) ?_
    rintro σ_7 - ⟨hσ_7, flσ_7, ngσ_7, t1, t2, t3⟩
    have frσ_7 : FR [kR_plan, kR_planMany, kR_pointMany, kR_xs, kR_ys] σ σ_7 := FR_tr frσ_5 flσ_7 (by decide) (by decide)
    have nfσ_7 : NF σ σ_7 := NF_tr nfσ_5 ngσ_7
    have c9 := ii_kR_planMany hσ_7 32
    try simp (disch := omega) only [w32_of, w64_of, w8_of] at t1
    try simp (disch := omega) only [w32_of, w64_of, w8_of] at t2
    try simp (disch := omega) only [w32_of, w64_of, w8_of] at t3
    have b1 := t1
    have b2 := t2
    have b3 := t3
    refine wp_bd (v_tell (σ := σ_7) (v_0 := 0) hσ_7 (by (try dsimp only) <;> first | assumption | omega | ((try simp (disch := omega) only [w32_of, w64_of, w8_of]) <;> first | assumption | omega | (split <;> omega) | (refine And.intro ?_ ?_ <;> split <;> omega)) | omega)) ?_
    rintro σ_9 - ⟨hσ_9, flσ_9, ngσ_9, t1, t2, t3⟩
    have frσ_9 : FR [kR_plan, kR_planMany, kR_pointMany, kR_xs, kR_ys] σ σ_9 := FR_tr frσ_7 flσ_9 (by decide) (by decide)
    have nfσ_9 : NF σ σ_9 := NF_tr nfσ_7 ngσ_9
    have c10 := ii_kR_planMany hσ_9 32
    try simp (disch := omega) only [w32_of, w64_of, w8_of] at t1
    try simp (disch := omega) only [w32_of, w64_of, w8_of] at t2
    try simp (disch := omega) only [w32_of, w64_of, w8_of] at t3
    have gi0 : PGi σ σ_9 := by
      have c1 : σ_9 kR_planMany 32 = σ kR_planMany 32 + 2 := by omega
      have c2 : σ_9 kR_pointMany 32 = σ kR_pointMany 32 := by rw [FR_at flσ_9 (c := kR_pointMany) (by decide), FR_at flσ_7 (c := kR_pointMany) (by decide), q6]
      have c3 : ∀ i, i < 65536 + σ kR_planMany 32 → i ≠ 65537 → σ_9 kR_plan i = σ kR_plan i := fun i x y => by rw [t3 i (by omega), b3 i (by omega), a2 i (by omega)]
      have c4 : σ_9 kR_plan 65537 = σ kR_plan 65537 + 1 := by rw [t3 _ (by omega), b3 _ (by omega)]; exact a1
      have c5 : σ_9 kR_plan (65536 + σ kR_planMany 32) = 3 := by rw [t3 _ (by omega), ← q5]; exact b2
      have c6 : σ_9 kR_plan (65536 + σ kR_planMany 32 + 1) = 0 := by rw [show 65536 + σ kR_planMany 32 + 1 = 65536 + σ_7 kR_planMany 32 by omega]; exact t2
      exact ⟨by omega, c5, by omega, fun k x y => by omega, by rw [c2, show (σ_9 kR_planMany 32 - (σ kR_planMany 32 + 2)).toNat = 0 by omega]; show _ = _ + (0 : Int); omega, c4, c3⟩
    refine wp_rdI (by (try dsimp only) <;> first | assumption | omega | ((try simp (disch := omega) only [w32_of, w64_of, w8_of]) <;> first | assumption | omega | (split <;> omega) | (refine And.intro ?_ ?_ <;> split <;> omega)) | omega) (by (try dsimp only) <;> first | assumption | omega | ((try simp (disch := omega) only [w32_of, w64_of, w8_of]) <;> first | assumption | omega | (split <;> omega) | (refine And.intro ?_ ?_ <;> split <;> omega)) | omega) (fun x_10 e_x_10 => ?_)
    have b_x_10 : 0 ≤ x_10 ∧ x_10 ≤ 2048 := by rw [e_x_10]; exact ii_kR_planMany hσ_9 _
    try simp (disch := omega) only [w32_of, w64_of, w8_of] at e_x_10
    refine wp_bd (v_more (σ := σ_9) (number_0 := (x_10 - 1)) hσ_9 (by (try dsimp only) <;> first | assumption | omega | ((try simp (disch := omega) only [w32_of, w64_of, w8_of]) <;> first | assumption | omega | (split <;> omega) | (refine And.intro ?_ ?_ <;> split <;> omega)) | omega) (by (try dsimp only) <;> first | assumption | omega | ((try simp (disch := omega) only [w32_of, w64_of, w8_of]) <;> first | assumption | omega | (split <;> omega) | (refine And.intro ?_ ?_ <;> split <;> omega)) | omega)) ?_
    rintro σ_13 - ⟨hσ_13, flσ_13, ngσ_13, m1, m2⟩
    have frσ_13 : FR [kR_plan, kR_planMany, kR_pointMany, kR_xs, kR_ys] σ σ_13 := FR_tr frσ_9 flσ_13 (by decide) (by decide)
    have nfσ_13 : NF σ σ_13 := NF_tr nfσ_9 ngσ_13
    try simp (disch := omega) only [w32_of, w64_of, w8_of] at m1
    try simp (disch := omega) only [w32_of, w64_of, w8_of] at m2
    have c11 := ii_kR_outs hσ_13 0
    have c12 := FR_at flσ_13 (c := kR_outs) (by decide) 0
    have c13 := ii_kR_outs hσ_9 0
    have c14 := FR_at flσ_9 (c := kR_outs) (by decide) 0
    have c15 := ii_kR_outs hσ_7 0
    have c16 := FR_at flσ_7 (c := kR_outs) (by decide) 0
    have c17 := ii_kR_outs hσ_5 0
    have c18 := FR_at flσ_5 (c := kR_outs) (by decide) 0
    have c19 := ii_kR_outMany hσ_13 shell_0
    have c20 := FR_at flσ_13 (c := kR_outMany) (by decide) shell_0
    have c21 := ii_kR_outMany hσ_9 shell_0
    have c22 := FR_at flσ_9 (c := kR_outMany) (by decide) shell_0
    have c23 := ii_kR_outMany hσ_7 shell_0
    have c24 := FR_at flσ_7 (c := kR_outMany) (by decide) shell_0
    have c25 := ii_kR_outMany hσ_5 shell_0
    have c26 := FR_at flσ_5 (c := kR_outMany) (by decide) shell_0
    have c27 := ii_kR_corners hσ_13 0
    have c28 := FR_at flσ_13 (c := kR_corners) (by decide) 0
    have c29 := ii_kR_corners hσ_9 0
    have c30 := FR_at flσ_9 (c := kR_corners) (by decide) 0
    have c31 := ii_kR_corners hσ_7 0
    have c32 := FR_at flσ_7 (c := kR_corners) (by decide) 0
    have c33 := ii_kR_corners hσ_5 0
    have c34 := FR_at flσ_5 (c := kR_corners) (by decide) 0
    refine wp_bd (v_tellOut (σ := σ_13) (out_0 := shell_0) hσ_13 (by (try dsimp only) <;> first | assumption | omega | ((try simp (disch := omega) only [w32_of, w64_of, w8_of]) <;> first | assumption | omega | (split <;> omega) | (refine And.intro ?_ ?_ <;> split <;> omega)) | omega) (OC_f frσ_13 (by decide) w0) (by (try dsimp only) <;> first | assumption | omega | ((try simp (disch := omega) only [w32_of, w64_of, w8_of]) <;> first | assumption | omega | (split <;> omega) | (refine And.intro ?_ ?_ <;> split <;> omega)) | omega) (by (try dsimp only) <;> first | assumption | omega | ((try simp (disch := omega) only [w32_of, w64_of, w8_of]) <;> first | assumption | omega | (split <;> omega) | (refine And.intro ?_ ?_ <;> split <;> omega)) | omega) (by (try dsimp only) <;> first | assumption | omega | ((try simp (disch := omega) only [w32_of, w64_of, w8_of]) <;> first | assumption | omega | (split <;> omega) | (refine And.intro ?_ ?_ <;> split <;> omega)) | omega)) ?_
    rintro ⟨x_16, σ_15⟩ - y35
    try dsimp only at y35 ⊢
    obtain ⟨hσ_15, flσ_15, ngσ_15, to⟩ := y35
    have frσ_15 : FR [kR_plan, kR_planMany, kR_pointMany, kR_xs, kR_ys] σ σ_15 := FR_tr frσ_13 flσ_15 (by decide) (by decide)
    have nfσ_15 : NF σ σ_15 := NF_tr nfσ_13 ngσ_15
    try simp (disch := omega) only [w32_of, w64_of, w8_of] at to
    refine wp_if (fun c36 => ?_) (fun c36 => ?_)
    · have k37 := to c36
      try simp (disch := omega) only [w32_of, w64_of, w8_of] at k37
      try simp (disch := omega) only [w32_of, w64_of, w8_of, decide_eq_true_eq, decide_eq_false_iff_not, Bool.not_eq_true] at c36
      have gi := PGi_go w4 gi0 (show x_10 - 1 = σ kR_planMany 32 + 1 by omega) m1 m2 (FR_at flσ_13 (c := kR_planMany) (by decide) 32) (FR_at flσ_13 (c := kR_pointMany) (by decide) 32) (to (by assumption))
      have c38 := ii_kR_corners hσ_15 0
      have c39 := FR_at flσ_15 (c := kR_corners) (by decide) 0
      have c40 := ii_kR_outs hσ_15 0
      have c41 := FR_at flσ_15 (c := kR_outs) (by decide) 0
      refine wp_bd (v_nextOut (τ := σ_15) (shell := shell_0) (behind := (-1)) hσ_15 (OC_f frσ_15 (by decide) w0) (by (try dsimp only) <;> first | assumption | omega | ((try simp (disch := omega) only [w32_of, w64_of, w8_of]) <;> first | assumption | omega | (split <;> omega) | (refine And.intro ?_ ?_ <;> split <;> omega)) | omega) (by (try dsimp only) <;> first | assumption | omega | ((try simp (disch := omega) only [w32_of, w64_of, w8_of]) <;> first | assumption | omega | (split <;> omega) | (refine And.intro ?_ ?_ <;> split <;> omega)) | omega) (by (try dsimp only) <;> first | assumption | omega | ((try simp (disch := omega) only [w32_of, w64_of, w8_of]) <;> first | assumption | omega | (split <;> omega) | (refine And.intro ?_ ?_ <;> split <;> omega)) | omega) (by (try dsimp only) <;> first | assumption | omega | ((try simp (disch := omega) only [w32_of, w64_of, w8_of]) <;> first | assumption | omega | (split <;> omega) | (refine And.intro ?_ ?_ <;> split <;> omega)) | omega) (by (try dsimp only) <;> first | assumption | omega | ((try simp (disch := omega) only [w32_of, w64_of, w8_of]) <;> first | assumption | omega | (split <;> omega) | (refine And.intro ?_ ?_ <;> split <;> omega)) | omega)) ?_
      rintro x_19 - ⟨n1, n2, n3⟩
      try simp (disch := omega) only [w32_of, w64_of, w8_of] at n1
      try simp (disch := omega) only [w32_of, w64_of, w8_of] at n2
      try simp (disch := omega) only [w32_of, w64_of, w8_of] at n3
      have ro : x_19 ≠ -1 → RO σ shell_0 x_19 := fun q => (RO_fr frσ_15 (by decide)).mp (n3 q).1
      refine wp_bx (P := fun rr_ => ((-1) ≤ rr_.1 ∧ rr_.1 ≤ (-1)) ∧ II rr_.2 ∧ FR [kR_plan, kR_planMany, kR_pointMany, kR_xs, kR_ys] σ rr_.2 ∧ NF σ rr_.2 ∧ (PGi σ rr_.2)) ?_ ?_
      · refine wp_whl (fun ss_ => ((-1) ≤ ss_.1 ∧ ss_.1 ≤ 8192) ∧ II ss_.2 ∧ FR [kR_plan, kR_planMany, kR_pointMany, kR_xs, kR_ys] σ ss_.2 ∧ NF σ ss_.2 ∧ (-1 ≤ ss_.1 ∧ ss_.1 < σ kR_outs 0) ∧ (ss_.1 ≠ -1 → RO σ shell_0 ss_.1) ∧ (PGi σ ss_.2)) (fun ss_ => (em_ σ ss_.1).toNat) ⟨(by (try dsimp only) <;> first | assumption | omega | ((try simp (disch := omega) only [w32_of, w64_of, w8_of]) <;> first | assumption | omega | (split <;> omega) | (refine And.intro ?_ ?_ <;> split <;> omega)) | omega), hσ_15, frσ_15, nfσ_15, (by (try dsimp only) <;> first | assumption | omega | ((try simp (disch := omega) only [w32_of, w64_of, w8_of]) <;> first | assumption | omega | (split <;> omega) | (refine And.intro ?_ ?_ <;> split <;> omega)) | omega), (by (try dsimp only) <;> (first | exact ro | exact gr)), (by (try dsimp only) <;> (first | assumption))⟩ ?_
        rintro ⟨h_20, σ_21⟩ y44
        try dsimp only at y44 ⊢
        obtain ⟨g42, hσ_21, frσ_21, nfσ_21, g43, gr, gi⟩ := y44
        have c46 := w32_rng h_20
        refine wp_if (fun c45 => ?_) (fun c45 => ?_)
        · try simp (disch := omega) only [w32_of, w64_of, w8_of, decide_eq_true_eq, decide_eq_false_iff_not, Bool.not_eq_true] at c45
          have hmn := RO_many w0 (by omega) (by omega) (gr (by omega))
          refine wp_bd (v_more (σ := σ_21) (number_0 := (x_10 - 1)) hσ_21 (by (try dsimp only) <;> first | assumption | omega | ((try simp (disch := omega) only [w32_of, w64_of, w8_of]) <;> first | assumption | omega | (split <;> omega) | (refine And.intro ?_ ?_ <;> split <;> omega)) | omega) (by (try dsimp only) <;> first | assumption | omega | ((try simp (disch := omega) only [w32_of, w64_of, w8_of]) <;> first | assumption | omega | (split <;> omega) | (refine And.intro ?_ ?_ <;> split <;> omega)) | omega)) ?_
          rintro σ_31 - ⟨hσ_31, flσ_31, ngσ_31, m1, m2⟩
          have frσ_31 : FR [kR_plan, kR_planMany, kR_pointMany, kR_xs, kR_ys] σ σ_31 := FR_tr frσ_21 flσ_31 (by decide) (by decide)
          have nfσ_31 : NF σ σ_31 := NF_tr nfσ_21 ngσ_31
          try simp (disch := omega) only [w32_of, w64_of, w8_of] at m1
          try simp (disch := omega) only [w32_of, w64_of, w8_of] at m2
          have c47 := ii_kR_outs hσ_31 0
          have c48 := FR_at flσ_31 (c := kR_outs) (by decide) 0
          have c49 := ii_kR_outs hσ_21 0
          have c50 := FR_at frσ_21 (c := kR_outs) (by decide) 0
          have c51 := ii_kR_outMany hσ_31 h_20
          have c52 := FR_at flσ_31 (c := kR_outMany) (by decide) h_20
          have c53 := ii_kR_outMany hσ_21 h_20
          have c54 := FR_at frσ_21 (c := kR_outMany) (by decide) h_20
          have c55 := ii_kR_outMany hσ h_20
          have c56 := ii_kR_corners hσ_31 0
          have c57 := FR_at flσ_31 (c := kR_corners) (by decide) 0
          have c58 := ii_kR_corners hσ_21 0
          have c59 := FR_at frσ_21 (c := kR_corners) (by decide) 0
          refine wp_bd (v_tellOut (σ := σ_31) (out_0 := h_20) hσ_31 (by (try dsimp only) <;> first | assumption | omega | ((try simp (disch := omega) only [w32_of, w64_of, w8_of]) <;> first | assumption | omega | (split <;> omega) | (refine And.intro ?_ ?_ <;> split <;> omega)) | omega) (OC_f frσ_31 (by decide) w0) (by (try dsimp only) <;> first | assumption | omega | ((try simp (disch := omega) only [w32_of, w64_of, w8_of]) <;> first | assumption | omega | (split <;> omega) | (refine And.intro ?_ ?_ <;> split <;> omega)) | omega) (by (try dsimp only) <;> first | assumption | omega | ((try simp (disch := omega) only [w32_of, w64_of, w8_of]) <;> first | assumption | omega | (split <;> omega) | (refine And.intro ?_ ?_ <;> split <;> omega)) | omega) (by (try dsimp only) <;> first | assumption | omega | ((try simp (disch := omega) only [w32_of, w64_of, w8_of]) <;> first | assumption | omega | (split <;> omega) | (refine And.intro ?_ ?_ <;> split <;> omega)) | omega)) ?_
          rintro ⟨x_34, σ_33⟩ - y60
          try dsimp only at y60 ⊢
          obtain ⟨hσ_33, flσ_33, ngσ_33, to⟩ := y60
          have frσ_33 : FR [kR_plan, kR_planMany, kR_pointMany, kR_xs, kR_ys] σ σ_33 := FR_tr frσ_31 flσ_33 (by decide) (by decide)
          have nfσ_33 : NF σ σ_33 := NF_tr nfσ_31 ngσ_33
          try simp (disch := omega) only [w32_of, w64_of, w8_of] at to
          refine wp_if (fun c61 => ?_) (fun c61 => ?_)
          · have k62 := to c61
            try simp (disch := omega) only [w32_of, w64_of, w8_of] at k62
            try simp (disch := omega) only [w32_of, w64_of, w8_of, decide_eq_true_eq, decide_eq_false_iff_not, Bool.not_eq_true] at c61
            have gi2 := PGi_go w4 gi (show x_10 - 1 = σ kR_planMany 32 + 1 by omega) m1 m2 (FR_at flσ_31 (c := kR_planMany) (by decide) 32) (FR_at flσ_31 (c := kR_pointMany) (by decide) 32) (to (by assumption))
            have c63 := ii_kR_corners hσ_33 0
            have c64 := FR_at flσ_33 (c := kR_corners) (by decide) 0
            have c65 := ii_kR_outs hσ_33 0
            have c66 := FR_at flσ_33 (c := kR_outs) (by decide) 0
            refine wp_bd (v_nextOut (τ := σ_33) (shell := shell_0) (behind := h_20) hσ_33 (OC_f frσ_33 (by decide) w0) (by (try dsimp only) <;> first | assumption | omega | ((try simp (disch := omega) only [w32_of, w64_of, w8_of]) <;> first | assumption | omega | (split <;> omega) | (refine And.intro ?_ ?_ <;> split <;> omega)) | omega) (by (try dsimp only) <;> first | assumption | omega | ((try simp (disch := omega) only [w32_of, w64_of, w8_of]) <;> first | assumption | omega | (split <;> omega) | (refine And.intro ?_ ?_ <;> split <;> omega)) | omega) (by (try dsimp only) <;> first | assumption | omega | ((try simp (disch := omega) only [w32_of, w64_of, w8_of]) <;> first | assumption | omega | (split <;> omega) | (refine And.intro ?_ ?_ <;> split <;> omega)) | omega) (by (try dsimp only) <;> first | assumption | omega | ((try simp (disch := omega) only [w32_of, w64_of, w8_of]) <;> first | assumption | omega | (split <;> omega) | (refine And.intro ?_ ?_ <;> split <;> omega)) | omega) (by (try dsimp only) <;> first | assumption | omega | ((try simp (disch := omega) only [w32_of, w64_of, w8_of]) <;> first | assumption | omega | (split <;> omega) | (refine And.intro ?_ ?_ <;> split <;> omega)) | omega)) ?_
            rintro x_37 - ⟨n1, n2, n3⟩
            try simp (disch := omega) only [w32_of, w64_of, w8_of] at n1
            try simp (disch := omega) only [w32_of, w64_of, w8_of] at n2
            try simp (disch := omega) only [w32_of, w64_of, w8_of] at n3
            have ro : x_37 ≠ -1 → RO σ shell_0 x_37 := fun q => (RO_fr frσ_33 (by decide)).mp (n3 q).1
            have hem := em_lt (σ := σ) (h := h_20) (k := x_37) (by omega) (by omega) (by omega) (fun q => (EA_fr frσ_33 (by decide)).mp ((n3 q).2 (by omega)))
            exact wp_some (x_inl ⟨⟨(by (try dsimp only) <;> first | assumption | omega | ((try simp (disch := omega) only [w32_of, w64_of, w8_of]) <;> first | assumption | omega | (split <;> omega) | (refine And.intro ?_ ?_ <;> split <;> omega)) | omega), hσ_33, frσ_33, nfσ_33, (by (try dsimp only) <;> first | assumption | omega | ((try simp (disch := omega) only [w32_of, w64_of, w8_of]) <;> first | assumption | omega | (split <;> omega) | (refine And.intro ?_ ?_ <;> split <;> omega)) | omega), (by (try dsimp only) <;> (first | exact ro | exact gr)), (by (try dsimp only) <;> (first | assumption))⟩, (by (try dsimp only) <;> first | assumption | omega | ((try simp (disch := omega) only [w32_of, w64_of, w8_of]) <;> first | assumption | omega | (split <;> omega) | (refine And.intro ?_ ?_ <;> split <;> omega)) | omega)⟩)
          · try simp (disch := omega) only [w32_of, w64_of, w8_of, decide_eq_true_eq, decide_eq_false_iff_not, Bool.not_eq_true] at c61
            exact wp_some (x_inr (x_inr ⟨hσ_33, frσ_33, nfσ_33, (fun q => (by cases q))⟩))
        · try simp (disch := omega) only [w32_of, w64_of, w8_of, decide_eq_true_eq, decide_eq_false_iff_not, Bool.not_eq_true] at c45
          exact wp_some (x_inr (x_inl ⟨(by (try dsimp only) <;> first | assumption | omega | ((try simp (disch := omega) only [w32_of, w64_of, w8_of]) <;> first | assumption | omega | (split <;> omega) | (refine And.intro ?_ ?_ <;> split <;> omega)) | omega), hσ_21, frσ_21, nfσ_21, (by (try dsimp only) <;> (exact gi))⟩))
      rintro ⟨h_40, σ_41⟩ y69
      try dsimp only at y69 ⊢
      obtain ⟨g68, hσ_41, frσ_41, nfσ_41, gi⟩ := y69
      exact wp_some ⟨hσ_41, frσ_41, nfσ_41, (by (try dsimp only) <;> (first | (intro h; exact absurd h (by decide)) | (intro _; exact PGi_end w4 (ii_kR_planMany (by assumption) 32).2 gi)))⟩
    · try simp (disch := omega) only [w32_of, w64_of, w8_of, decide_eq_true_eq, decide_eq_false_iff_not, Bool.not_eq_true] at c36
      exact wp_some ⟨hσ_15, frσ_15, nfσ_15, (fun q => (by cases q))⟩
theorem v_tellResult {σ : SG} (hσ : II σ) (w0 : OC σ) (w1 : σ kR_corners 0 ≤ 16384) (w2 : σ kR_outs 0 ≤ 8192) : wp_ (fR_tellResult σ) (fun zz_ => II zz_.2 ∧ FR [kR_plan, kR_planMany, kR_pointMany, kR_xs, kR_ys] σ zz_.2 ∧ NF σ zz_.2 ∧ ((zz_.1 = true) → SHn zz_.2)) := by
  unfold fR_tellResult
  have c1 := ii_kR_corners hσ 0
  have c2 := ii_kR_outs hσ 0
  refine wp_bd (v_clear (σ := σ) (slot_0 := 32) hσ (by (try dsimp only) <;> first | assumption | omega | ((try simp (disch := omega) only [w32_of, w64_of, w8_of]) <;> first | assumption | omega | (split <;> omega) | (refine And.intro ?_ ?_ <;> split <;> omega)) | omega)) ?_
  rintro σ_2 - ⟨hσ_2, flσ_2, gc1, gc2, gc3⟩
  have frσ_2 : FR [kR_plan, kR_planMany, kR_pointMany, kR_xs, kR_ys] σ σ_2 := FR_le flσ_2 (by decide)
  have nfσ_2 : NF σ σ_2 := NF_tr (NF_refl _) (⟨fun i _ => ⟨FR_at flσ_2 (by decide) i, FR_at flσ_2 (by decide) i, FR_at flσ_2 (by decide) i⟩, gc3⟩)
  have c3 := ii_kR_planMany hσ_2 32
  try simp (disch := omega) only [w32_of, w64_of, w8_of] at gc1
  have c4 := ii_kR_pointMany hσ_2 32
  try simp (disch := omega) only [w32_of, w64_of, w8_of] at gc2
  try simp (disch := omega) only [w32_of, w64_of, w8_of] at gc3
  refine wp_bd (v_tell (σ := σ_2) (v_0 := 6) hσ_2 (by (try dsimp only) <;> first | assumption | omega | ((try simp (disch := omega) only [w32_of, w64_of, w8_of]) <;> first | assumption | omega | (split <;> omega) | (refine And.intro ?_ ?_ <;> split <;> omega)) | omega)) ?_
  rintro σ_4 - ⟨hσ_4, flσ_4, ngσ_4, t1, t2, t3⟩
  have frσ_4 : FR [kR_plan, kR_planMany, kR_pointMany, kR_xs, kR_ys] σ σ_4 := FR_tr frσ_2 flσ_4 (by decide) (by decide)
  have nfσ_4 : NF σ σ_4 := NF_tr nfσ_2 ngσ_4
  have c5 := ii_kR_planMany hσ_4 32
  try simp (disch := omega) only [w32_of, w64_of, w8_of] at t1
  try simp (disch := omega) only [w32_of, w64_of, w8_of] at t2
  try simp (disch := omega) only [w32_of, w64_of, w8_of] at t3
  have b1 := t1
  have b2 := t2
  have b3 := t3
  refine wp_bd (v_tell (σ := σ_4) (v_0 := 0) hσ_4 (by (try dsimp only) <;> first | assumption | omega | ((try simp (disch := omega) only [w32_of, w64_of, w8_of]) <;> first | assumption | omega | (split <;> omega) | (refine And.intro ?_ ?_ <;> split <;> omega)) | omega)) ?_
  rintro σ_6 - ⟨hσ_6, flσ_6, ngσ_6, t1, t2, t3⟩
  have frσ_6 : FR [kR_plan, kR_planMany, kR_pointMany, kR_xs, kR_ys] σ σ_6 := FR_tr frσ_4 flσ_6 (by decide) (by decide)
  have nfσ_6 : NF σ σ_6 := NF_tr nfσ_4 ngσ_6
  have c6 := ii_kR_planMany hσ_6 32
  try simp (disch := omega) only [w32_of, w64_of, w8_of] at t1
  try simp (disch := omega) only [w32_of, w64_of, w8_of] at t2
  try simp (disch := omega) only [w32_of, w64_of, w8_of] at t3
  have gp0 : PGs σ_6 := by
    have c2 : σ_6 kR_pointMany 32 = 0 := by rw [FR_at flσ_6 (c := kR_pointMany) (by decide), FR_at flσ_4 (c := kR_pointMany) (by decide)]; exact gc2
    exact PGs_0 (by omega) (by rw [t3 _ (by omega)]; rw [gc1] at b2; exact b2) (by rw [show (65537 : Int) = 65536 + σ_4 kR_planMany 32 by omega]; exact t2) c2
  have c7 := ii_kR_corners hσ_6 0
  have c8 := FR_at flσ_6 (c := kR_corners) (by decide) 0
  have c9 := ii_kR_corners hσ_4 0
  have c10 := FR_at flσ_4 (c := kR_corners) (by decide) 0
  have c11 := ii_kR_corners hσ_2 0
  have c12 := FR_at flσ_2 (c := kR_corners) (by decide) 0
  have c13 := ii_kR_outs hσ_6 0
  have c14 := FR_at flσ_6 (c := kR_outs) (by decide) 0
  have c15 := ii_kR_outs hσ_4 0
  have c16 := FR_at flσ_4 (c := kR_outs) (by decide) 0
  have c17 := ii_kR_outs hσ_2 0
  have c18 := FR_at flσ_2 (c := kR_outs) (by decide) 0
  refine wp_bd (v_nextOut (τ := σ_6) (shell := (-1)) (behind := (-1)) hσ_6 (OC_f frσ_6 (by decide) w0) (by (try dsimp only) <;> first | assumption | omega | ((try simp (disch := omega) only [w32_of, w64_of, w8_of]) <;> first | assumption | omega | (split <;> omega) | (refine And.intro ?_ ?_ <;> split <;> omega)) | omega) (by (try dsimp only) <;> first | assumption | omega | ((try simp (disch := omega) only [w32_of, w64_of, w8_of]) <;> first | assumption | omega | (split <;> omega) | (refine And.intro ?_ ?_ <;> split <;> omega)) | omega) (by (try dsimp only) <;> first | assumption | omega | ((try simp (disch := omega) only [w32_of, w64_of, w8_of]) <;> first | assumption | omega | (split <;> omega) | (refine And.intro ?_ ?_ <;> split <;> omega)) | omega) (by (try dsimp only) <;> first | assumption | omega | ((try simp (disch := omega) only [w32_of, w64_of, w8_of]) <;> first | assumption | omega | (split <;> omega) | (refine And.intro ?_ ?_ <;> split <;> omega)) | omega) (by (try dsimp only) <;> first | assumption | omega | ((try simp (disch := omega) only [w32_of, w64_of, w8_of]) <;> first | assumption | omega | (split <;> omega) | (refine And.intro ?_ ?_ <;> split <;> omega)) | omega)) ?_
  rintro x_8 - ⟨n1, n2, n3⟩
  try simp (disch := omega) only [w32_of, w64_of, w8_of] at n1
  try simp (disch := omega) only [w32_of, w64_of, w8_of] at n2
  try simp (disch := omega) only [w32_of, w64_of, w8_of] at n3
  have ro : x_8 ≠ -1 → RO σ (-1) x_8 := fun q => (RO_fr frσ_6 (by decide)).mp (n3 q).1
  refine wp_bx (P := fun rr_ => ((-1) ≤ rr_.1 ∧ rr_.1 ≤ (-1)) ∧ II rr_.2 ∧ FR [kR_plan, kR_planMany, kR_pointMany, kR_xs, kR_ys] σ rr_.2 ∧ NF σ rr_.2 ∧ (PGs rr_.2)) ?_ ?_
  · refine wp_whl (fun ss_ => ((-1) ≤ ss_.1 ∧ ss_.1 ≤ 8192) ∧ II ss_.2 ∧ FR [kR_plan, kR_planMany, kR_pointMany, kR_xs, kR_ys] σ ss_.2 ∧ NF σ ss_.2 ∧ (-1 ≤ ss_.1 ∧ ss_.1 < σ kR_outs 0) ∧ (ss_.1 ≠ -1 → RO σ (-1) ss_.1) ∧ (PGs ss_.2)) (fun ss_ => (em_ σ ss_.1).toNat) ⟨(by (try dsimp only) <;> first | assumption | omega | ((try simp (disch := omega) only [w32_of, w64_of, w8_of]) <;> first | assumption | omega | (split <;> omega) | (refine And.intro ?_ ?_ <;> split <;> omega)) | omega), hσ_6, frσ_6, nfσ_6, (by (try dsimp only) <;> first | assumption | omega | ((try simp (disch := omega) only [w32_of, w64_of, w8_of]) <;> first | assumption | omega | (split <;> omega) | (refine And.intro ?_ ?_ <;> split <;> omega)) | omega), (by (try dsimp only) <;> (first | exact ro | exact gr)), (by (try dsimp only) <;> (first | assumption))⟩ ?_
    rintro ⟨s_9, σ_10⟩ y21
    try dsimp only at y21 ⊢
    obtain ⟨g19, hσ_10, frσ_10, nfσ_10, g20, gr, gp⟩ := y21
    have hp2 := gp.1
    have c23 := w32_rng s_9
    refine wp_if (fun c22 => ?_) (fun c22 => ?_)
    · try simp (disch := omega) only [w32_of, w64_of, w8_of, decide_eq_true_eq, decide_eq_false_iff_not, Bool.not_eq_true] at c22
      have hmn : 0 < σ kR_outMany s_9 := RO_many w0 (by omega) (by omega) (gr (by omega))
      have c24 := ii_kR_outs hσ_10 0
      have c25 := FR_at frσ_10 (c := kR_outs) (by decide) 0
      have c26 := ii_kR_outMany hσ_10 s_9
      have c27 := FR_at frσ_10 (c := kR_outMany) (by decide) s_9
      have c28 := ii_kR_outMany hσ s_9
      have c29 := ii_kR_corners hσ_10 0
      have c30 := FR_at frσ_10 (c := kR_corners) (by decide) 0
      have c31 := ii_kR_planMany hσ_10 32
      refine wp_bd (v_tellPolygon (σ := σ_10) (shell_0 := s_9) hσ_10 (by (try dsimp only) <;> first | assumption | omega | ((try simp (disch := omega) only [w32_of, w64_of, w8_of]) <;> first | assumption | omega | (split <;> omega) | (refine And.intro ?_ ?_ <;> split <;> omega)) | omega) (OC_f frσ_10 (by decide) w0) (by (try dsimp only) <;> first | assumption | omega | ((try simp (disch := omega) only [w32_of, w64_of, w8_of]) <;> first | assumption | omega | (split <;> omega) | (refine And.intro ?_ ?_ <;> split <;> omega)) | omega) (by (try dsimp only) <;> first | assumption | omega | ((try simp (disch := omega) only [w32_of, w64_of, w8_of]) <;> first | assumption | omega | (split <;> omega) | (refine And.intro ?_ ?_ <;> split <;> omega)) | omega) (by (try dsimp only) <;> first | assumption | omega | ((try simp (disch := omega) only [w32_of, w64_of, w8_of]) <;> first | assumption | omega | (split <;> omega) | (refine And.intro ?_ ?_ <;> split <;> omega)) | omega) (by (try dsimp only) <;> first | assumption | omega | ((try simp (disch := omega) only [w32_of, w64_of, w8_of]) <;> first | assumption | omega | (split <;> omega) | (refine And.intro ?_ ?_ <;> split <;> omega)) | omega)) ?_
      rintro ⟨x_21, σ_20⟩ - y32
      try dsimp only at y32 ⊢
      obtain ⟨hσ_20, flσ_20, ngσ_20, tp⟩ := y32
      have frσ_20 : FR [kR_plan, kR_planMany, kR_pointMany, kR_xs, kR_ys] σ σ_20 := FR_tr frσ_10 flσ_20 (by decide) (by decide)
      have nfσ_20 : NF σ σ_20 := NF_tr nfσ_10 ngσ_20
      try simp (disch := omega) only [w32_of, w64_of, w8_of] at tp
      refine wp_if (fun c33 => ?_) (fun c33 => ?_)
      · have k34 := tp c33
        try simp (disch := omega) only [w32_of, w64_of, w8_of] at k34
        try simp (disch := omega) only [w32_of, w64_of, w8_of, decide_eq_true_eq, decide_eq_false_iff_not, Bool.not_eq_true] at c33
        have gp2 := PGs_go gp (tp (by assumption))
        have c35 := ii_kR_corners hσ_20 0
        have c36 := FR_at flσ_20 (c := kR_corners) (by decide) 0
        have c37 := ii_kR_outs hσ_20 0
        have c38 := FR_at flσ_20 (c := kR_outs) (by decide) 0
        refine wp_bd (v_nextOut (τ := σ_20) (shell := (-1)) (behind := s_9) hσ_20 (OC_f frσ_20 (by decide) w0) (by (try dsimp only) <;> first | assumption | omega | ((try simp (disch := omega) only [w32_of, w64_of, w8_of]) <;> first | assumption | omega | (split <;> omega) | (refine And.intro ?_ ?_ <;> split <;> omega)) | omega) (by (try dsimp only) <;> first | assumption | omega | ((try simp (disch := omega) only [w32_of, w64_of, w8_of]) <;> first | assumption | omega | (split <;> omega) | (refine And.intro ?_ ?_ <;> split <;> omega)) | omega) (by (try dsimp only) <;> first | assumption | omega | ((try simp (disch := omega) only [w32_of, w64_of, w8_of]) <;> first | assumption | omega | (split <;> omega) | (refine And.intro ?_ ?_ <;> split <;> omega)) | omega) (by (try dsimp only) <;> first | assumption | omega | ((try simp (disch := omega) only [w32_of, w64_of, w8_of]) <;> first | assumption | omega | (split <;> omega) | (refine And.intro ?_ ?_ <;> split <;> omega)) | omega) (by (try dsimp only) <;> first | assumption | omega | ((try simp (disch := omega) only [w32_of, w64_of, w8_of]) <;> first | assumption | omega | (split <;> omega) | (refine And.intro ?_ ?_ <;> split <;> omega)) | omega)) ?_
        rintro x_24 - ⟨n1, n2, n3⟩
        try simp (disch := omega) only [w32_of, w64_of, w8_of] at n1
        try simp (disch := omega) only [w32_of, w64_of, w8_of] at n2
        try simp (disch := omega) only [w32_of, w64_of, w8_of] at n3
        have ro : x_24 ≠ -1 → RO σ (-1) x_24 := fun q => (RO_fr frσ_20 (by decide)).mp (n3 q).1
        have hem := em_lt (σ := σ) (h := s_9) (k := x_24) (by omega) (by omega) (by omega) (fun q => (EA_fr frσ_20 (by decide)).mp ((n3 q).2 (by omega)))
        exact wp_some (x_inl ⟨⟨(by (try dsimp only) <;> first | assumption | omega | ((try simp (disch := omega) only [w32_of, w64_of, w8_of]) <;> first | assumption | omega | (split <;> omega) | (refine And.intro ?_ ?_ <;> split <;> omega)) | omega), hσ_20, frσ_20, nfσ_20, (by (try dsimp only) <;> first | assumption | omega | ((try simp (disch := omega) only [w32_of, w64_of, w8_of]) <;> first | assumption | omega | (split <;> omega) | (refine And.intro ?_ ?_ <;> split <;> omega)) | omega), (by (try dsimp only) <;> (first | exact ro | exact gr)), (by (try dsimp only) <;> (first | assumption))⟩, (by (try dsimp only) <;> first | assumption | omega | ((try simp (disch := omega) only [w32_of, w64_of, w8_of]) <;> first | assumption | omega | (split <;> omega) | (refine And.intro ?_ ?_ <;> split <;> omega)) | omega)⟩)
      · try simp (disch := omega) only [w32_of, w64_of, w8_of, decide_eq_true_eq, decide_eq_false_iff_not, Bool.not_eq_true] at c33
        exact wp_some (x_inr (x_inr ⟨hσ_20, frσ_20, nfσ_20, (fun q => (by cases q))⟩))
    · try simp (disch := omega) only [w32_of, w64_of, w8_of, decide_eq_true_eq, decide_eq_false_iff_not, Bool.not_eq_true] at c22
      exact wp_some (x_inr (x_inl ⟨(by (try dsimp only) <;> first | assumption | omega | ((try simp (disch := omega) only [w32_of, w64_of, w8_of]) <;> first | assumption | omega | (split <;> omega) | (refine And.intro ?_ ?_ <;> split <;> omega)) | omega), hσ_10, frσ_10, nfσ_10, (by (try dsimp only) <;> (exact gp))⟩))
  rintro ⟨s_27, σ_28⟩ y41
  try dsimp only at y41 ⊢
  obtain ⟨g40, hσ_28, frσ_28, nfσ_28, gp⟩ := y41
  exact wp_some ⟨hσ_28, frσ_28, nfσ_28, (by (try dsimp only) <;> (first | (intro h; exact absurd h (by decide)) | (intro _; exact PGs_SH (ii_kR_planMany (by assumption) 32).2 gp)))⟩
