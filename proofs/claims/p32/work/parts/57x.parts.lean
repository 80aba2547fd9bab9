theorem v_putParts {σ : SG} {n_0 : Int} {s : Int} {kk : Int} {Q : Int} (hσ : II σ) (w0 : UNt σ) (w1 : 0 ≤ n_0 ∧ n_0 ≤ 2048) (w2 : 1 ≤ kk ∧ kk ≤ 3) (w3 : 0 ≤ s ∧ s ≤ 31) (w4 : PT (σ kR_plan) kk n_0.toNat (σ kR_planAt 0) Q) (w5 : FLw σ s (σ kR_planAt 0) (σ kR_pointAt 0)) (w6 : Q ≤ 2048 * s + σ kR_planMany s) (w7 : σ kR_resultMany 0 + 20 + 14 * (Q - σ kR_planAt 0) + 33 * (2048 * s + σ kR_pointMany s - σ kR_pointAt 0) ≤ 131072) : wp_ (fR_putParts σ n_0) (fun zz_ => II zz_ ∧ FR [kR_planAt, kR_pointAt, kR_result, kR_resultMany] σ zz_ ∧ (zz_ kR_planAt 0 = Q) ∧ (FLw σ s (zz_ kR_planAt 0) (zz_ kR_pointAt 0)) ∧ (zz_ kR_resultMany 0 ≤ σ kR_resultMany 0 + 20 + 14 * (Q - σ kR_planAt 0) + 33 * (zz_ kR_pointAt 0 - σ kR_pointAt 0))) := by
  unfold fR_putParts
  have c1 := ii_kR_planAt hσ 0
  have c2 := ii_kR_pointAt hσ 0
  have c3 := ii_kR_planMany hσ s
  have c4 := ii_kR_resultMany hσ 0
  have c5 := ii_kR_pointMany hσ s
  have hle0 := FLw_le w5
  have hpt0 := PT_le w4
  have hpm := ii_kR_planMany hσ s
  have hqm := ii_kR_pointMany hσ s
  have c7 := w32_rng n_0
  refine wp_if (fun c6 => ?_) (fun c6 => ?_)
  · try simp (disch := omega) only [w32_of, w64_of, w8_of, decide_eq_true_eq, decide_eq_false_iff_not, Bool.not_eq_true] at c6
    refine wp_bd (v_putWord (σ := σ) (kind_0 := 8) hσ (by (try dsimp only) <;> first | assumption | omega | ((try simp (disch := omega) only [w32_of, w64_of, w8_of]) <;> first | assumption | omega | (split <;> omega) | (refine And.intro ?_ ?_ <;> split <;> omega)) | omega) (by (try dsimp only) <;> first | assumption | omega | ((try simp (disch := omega) only [w32_of, w64_of, w8_of]) <;> first | assumption | omega | (split <;> omega) | (refine And.intro ?_ ?_ <;> split <;> omega)) | omega)) ?_
    rintro σ_3 - ⟨hσ_3, flσ_3, g8⟩
    have frσ_3 : FR [kR_planAt, kR_pointAt, kR_result, kR_resultMany] σ σ_3 := FR_le flσ_3 (by decide)
    have c9 := ii_kR_resultMany hσ_3 0
    try simp (disch := omega) only [w32_of, w64_of, w8_of] at g8
    have pz : n_0 = 0 := by omega
    have hq : σ kR_planAt 0 = Q := by
      have z := w4
      rw [pz] at z; exact z
    have pa3 : σ_3 kR_planAt 0 = σ kR_planAt 0 := FR_at flσ_3 (c := kR_planAt) (by decide) 0
    have pq3 : σ_3 kR_pointAt 0 = σ kR_pointAt 0 := FR_at flσ_3 (c := kR_pointAt) (by decide) 0
    have hq3 : σ_3 kR_planAt 0 = Q := pa3.trans hq
    have gw3 : FLw σ s (σ_3 kR_planAt 0) (σ_3 kR_pointAt 0) := by rw [pa3, pq3]; exact w5
    have c10 := ii_kR_planAt hσ_3 0
    have c11 := FR_at flσ_3 (c := kR_planAt) (by decide) 0
    have c12 := ii_kR_pointAt hσ_3 0
    have c13 := FR_at flσ_3 (c := kR_pointAt) (by decide) 0
    exact wp_some ⟨hσ_3, frσ_3, (by (try dsimp only) <;> (first | omega | exact hq3)), (by (try dsimp only) <;> (first | exact gw3 | exact gw51)), (by (try dsimp only) <;> first | assumption | omega | ((try simp (disch := omega) only [w32_of, w64_of, w8_of]) <;> first | assumption | omega | (split <;> omega) | (refine And.intro ?_ ?_ <;> split <;> omega)) | omega)⟩
  · try simp (disch := omega) only [w32_of, w64_of, w8_of, decide_eq_true_eq, decide_eq_false_iff_not, Bool.not_eq_true] at c6
    refine wp_bd (s_R_put (σ := σ) (c_0 := 40) hσ (by (try dsimp only) <;> first | assumption | omega | ((try simp (disch := omega) only [w32_of, w64_of, w8_of]) <;> first | assumption | omega | (split <;> omega) | (refine And.intro ?_ ?_ <;> split <;> omega)) | omega) (by (try dsimp only) <;> first | assumption | omega | ((try simp (disch := omega) only [w32_of, w64_of, w8_of]) <;> first | assumption | omega | (split <;> omega) | (refine And.intro ?_ ?_ <;> split <;> omega)) | omega)) ?_
    rintro σ_5 - ⟨hσ_5, flσ_5, g14⟩
    have frσ_5 : FR [kR_planAt, kR_pointAt, kR_result, kR_resultMany] σ σ_5 := FR_le flσ_5 (by decide)
    have c15 := ii_kR_resultMany hσ_5 0
    try simp (disch := omega) only [w32_of, w64_of, w8_of] at g14
    have pa5 : σ_5 kR_planAt 0 = σ kR_planAt 0 := FR_at flσ_5 (c := kR_planAt) (by decide) 0
    have pq5 : σ_5 kR_pointAt 0 = σ kR_pointAt 0 := FR_at flσ_5 (c := kR_pointAt) (by decide) 0
    refine wp_bd (P := fun rr_ => II rr_.2 ∧ FR [kR_planAt, kR_pointAt, kR_result, kR_resultMany] σ rr_.2 ∧ (rr_.2 kR_planAt 0 = Q) ∧ (FLw σ s (rr_.2 kR_planAt 0) (rr_.2 kR_pointAt 0)) ∧ (rr_.2 kR_resultMany 0 ≤ σ kR_resultMany 0 + 1 + 14 * (Q - σ kR_planAt 0) + 33 * (rr_.2 kR_pointAt 0 - σ kR_pointAt 0))) ?_ ?_
    · have c16 := ii_kR_planAt hσ_5 0
      have c17 := FR_at flσ_5 (c := kR_planAt) (by decide) 0
      have c18 := ii_kR_pointAt hσ_5 0
      have c19 := FR_at flσ_5 (c := kR_pointAt) (by decide) 0
      refine wp_whl (fun ss_ => II ss_.2 ∧ FR [kR_planAt, kR_pointAt, kR_result, kR_resultMany] σ ss_.2 ∧ (0 ≤ ss_.1 ∧ ss_.1 ≤ n_0) ∧ (PT (σ kR_plan) kk (n_0 - ss_.1).toNat (ss_.2 kR_planAt 0) Q) ∧ (FLw σ s (ss_.2 kR_planAt 0) (ss_.2 kR_pointAt 0)) ∧ (ss_.2 kR_resultMany 0 ≤ σ kR_resultMany 0 + 1 + 14 * (ss_.2 kR_planAt 0 - σ kR_planAt 0) + 33 * (ss_.2 kR_pointAt 0 - σ kR_pointAt 0)) ∧ (σ kR_pointAt 0 ≤ ss_.2 kR_pointAt 0)) (fun ss_ => (n_0 - ss_.1).toNat) ⟨hσ_5, frσ_5, (by (try dsimp only) <;> first | assumption | omega | ((try simp (disch := omega) only [w32_of, w64_of, w8_of]) <;> first | assumption | omega | (split <;> omega) | (refine And.intro ?_ ?_ <;> split <;> omega)) | omega), (by (try dsimp only) <;> (first | (rw [pa5, show n_0 - 0 = n_0 by omega]; exact w4) | exact gt2)), (by (try dsimp only) <;> (first | (rw [pa5, pq5]; exact w5) | exact gw2)), (by (try dsimp only) <;> first | assumption | omega | ((try simp (disch := omega) only [w32_of, w64_of, w8_of]) <;> first | assumption | omega | (split <;> omega) | (refine And.intro ?_ ?_ <;> split <;> omega)) | omega), (by (try dsimp only) <;> first | assumption | omega | ((try simp (disch := omega) only [w32_of, w64_of, w8_of]) <;> first | assumption | omega | (split <;> omega) | (refine And.intro ?_ ?_ <;> split <;> omega)) | omega)⟩ ?_
      rintro ⟨k_6, σ_7⟩ y23
      try dsimp only at y23 ⊢
      obtain ⟨hσ_7, frσ_7, g20, gt, gw, g21, g22⟩ := y23
      have hle := FLw_le gw
      have hptl := PT_le gt
      have c25 := w32_rng k_6
      refine wp_if (fun c24 => ?_) (fun c24 => ?_)
      · try simp (disch := omega) only [w32_of, w64_of, w8_of, decide_eq_true_eq, decide_eq_false_iff_not, Bool.not_eq_true] at c24
        obtain ⟨hp1, hp2, hp3⟩ : σ kR_plan (σ_7 kR_planAt 0) = kk ∧ 0 ≤ σ kR_plan (σ_7 kR_planAt 0 + 1) ∧ PT (σ kR_plan) kk (n_0 - (k_6 + 1)).toNat (σ_7 kR_planAt 0 + eL (σ kR_plan) (σ_7 kR_planAt 0)) Q := by
          rw [show (n_0 - k_6).toNat = (n_0 - (k_6 + 1)).toNat + 1 by omega] at gt
          exact gt
        obtain ⟨ho, hn, h2, h3, h4, h5, -⟩ := FLw_hd gw (by omega)
        have hptl3 := PT_le hp3
        have ho3 := ho.2.2.1
        refine wp_bd (P := fun rr_ => II rr_ ∧ FR [kR_planAt, kR_pointAt, kR_result, kR_resultMany] σ rr_ ∧ (rr_ kR_planAt 0 = σ_7 kR_planAt 0) ∧ (rr_ kR_pointAt 0 = σ_7 kR_pointAt 0) ∧ (rr_ kR_resultMany 0 ≤ σ_7 kR_resultMany 0 + 1)) ?_ ?_
        · refine wp_if (fun c26 => ?_) (fun c26 => ?_)
          · try simp (disch := omega) only [w32_of, w64_of, w8_of, decide_eq_true_eq, decide_eq_false_iff_not, Bool.not_eq_true] at c26
            have c27 := ii_kR_resultMany hσ_7 0
            refine wp_bd (s_R_put (σ := σ_7) (c_0 := 44) hσ_7 (by (try dsimp only) <;> first | assumption | omega | ((try simp (disch := omega) only [w32_of, w64_of, w8_of]) <;> first | assumption | omega | (split <;> omega) | (refine And.intro ?_ ?_ <;> split <;> omega)) | omega) (by (try dsimp only) <;> first | assumption | omega | ((try simp (disch := omega) only [w32_of, w64_of, w8_of]) <;> first | assumption | omega | (split <;> omega) | (refine And.intro ?_ ?_ <;> split <;> omega)) | omega)) ?_
            rintro σ_22 - ⟨hσ_22, flσ_22, g28⟩
            have frσ_22 : FR [kR_planAt, kR_pointAt, kR_result, kR_resultMany] σ σ_22 := FR_tr frσ_7 flσ_22 (by decide) (by decide)
            have c29 := ii_kR_resultMany hσ_22 0
            try simp (disch := omega) only [w32_of, w64_of, w8_of] at g28
            have c30 := ii_kR_planAt hσ_22 0
            have c31 := FR_at flσ_22 (c := kR_planAt) (by decide) 0
            have c32 := ii_kR_planAt hσ_7 0
            have c33 := ii_kR_pointAt hσ_22 0
            have c34 := FR_at flσ_22 (c := kR_pointAt) (by decide) 0
            have c35 := ii_kR_pointAt hσ_7 0
            exact wp_some ⟨hσ_22, frσ_22, (by (try dsimp only) <;> first | assumption | omega | ((try simp (disch := omega) only [w32_of, w64_of, w8_of]) <;> first | assumption | omega | (split <;> omega) | (refine And.intro ?_ ?_ <;> split <;> omega)) | omega), (by (try dsimp only) <;> first | assumption | omega | ((try simp (disch := omega) only [w32_of, w64_of, w8_of]) <;> first | assumption | omega | (split <;> omega) | (refine And.intro ?_ ?_ <;> split <;> omega)) | omega), (by (try dsimp only) <;> first | assumption | omega | ((try simp (disch := omega) only [w32_of, w64_of, w8_of]) <;> first | assumption | omega | (split <;> omega) | (refine And.intro ?_ ?_ <;> split <;> omega)) | omega)⟩
          · try simp (disch := omega) only [w32_of, w64_of, w8_of, decide_eq_true_eq, decide_eq_false_iff_not, Bool.not_eq_true] at c26
            have c36 := ii_kR_planAt hσ_7 0
            have c37 := ii_kR_pointAt hσ_7 0
            have c38 := ii_kR_resultMany hσ_7 0
            exact wp_some ⟨hσ_7, frσ_7, (by (try dsimp only) <;> first | assumption | omega | ((try simp (disch := omega) only [w32_of, w64_of, w8_of]) <;> first | assumption | omega | (split <;> omega) | (refine And.intro ?_ ?_ <;> split <;> omega)) | omega), (by (try dsimp only) <;> first | assumption | omega | ((try simp (disch := omega) only [w32_of, w64_of, w8_of]) <;> first | assumption | omega | (split <;> omega) | (refine And.intro ?_ ?_ <;> split <;> omega)) | omega), (by (try dsimp only) <;> first | assumption | omega | ((try simp (disch := omega) only [w32_of, w64_of, w8_of]) <;> first | assumption | omega | (split <;> omega) | (refine And.intro ?_ ?_ <;> split <;> omega)) | omega)⟩
        rintro σ_25 _ ⟨hσ_25, frσ_25, g39, g40, g41⟩
        refine wp_bd (P := fun rr_ => II rr_ ∧ FR [kR_planAt, kR_pointAt, kR_result, kR_resultMany] σ rr_ ∧ (rr_ kR_planAt 0 = σ_7 kR_planAt 0) ∧ (rr_ kR_pointAt 0 = σ_7 kR_pointAt 0) ∧ (rr_ kR_resultMany 0 ≤ σ_7 kR_resultMany 0 + 2)) ?_ ?_
        · refine wp_if (fun c42 => ?_) (fun c42 => ?_)
          · try simp (disch := omega) only [w32_of, w64_of, w8_of, decide_eq_true_eq, decide_eq_false_iff_not, Bool.not_eq_true] at c42
            have c43 := ii_kR_resultMany hσ_25 0
            refine wp_bd (s_R_put (σ := σ_25) (c_0 := 32) hσ_25 (by (try dsimp only) <;> first | assumption | omega | ((try simp (disch := omega) only [w32_of, w64_of, w8_of]) <;> first | assumption | omega | (split <;> omega) | (refine And.intro ?_ ?_ <;> split <;> omega)) | omega) (by (try dsimp only) <;> first | assumption | omega | ((try simp (disch := omega) only [w32_of, w64_of, w8_of]) <;> first | assumption | omega | (split <;> omega) | (refine And.intro ?_ ?_ <;> split <;> omega)) | omega)) ?_
            rintro σ_32 - ⟨hσ_32, flσ_32, g44⟩
            have frσ_32 : FR [kR_planAt, kR_pointAt, kR_result, kR_resultMany] σ σ_32 := FR_tr frσ_25 flσ_32 (by decide) (by decide)
            have c45 := ii_kR_resultMany hσ_32 0
            try simp (disch := omega) only [w32_of, w64_of, w8_of] at g44
            have c46 := ii_kR_planAt hσ_32 0
            have c47 := FR_at flσ_32 (c := kR_planAt) (by decide) 0
            have c48 := ii_kR_planAt hσ_25 0
            have c49 := ii_kR_planAt hσ_7 0
            have c50 := ii_kR_pointAt hσ_32 0
            have c51 := FR_at flσ_32 (c := kR_pointAt) (by decide) 0
            have c52 := ii_kR_pointAt hσ_25 0
            have c53 := ii_kR_pointAt hσ_7 0
            have c54 := ii_kR_resultMany hσ_7 0
            exact wp_some ⟨hσ_32, frσ_32, (by (try dsimp only) <;> first | assumption | omega | ((try simp (disch := omega) only [w32_of, w64_of, w8_of]) <;> first | assumption | omega | (split <;> omega) | (refine And.intro ?_ ?_ <;> split <;> omega)) | omega), (by (try dsimp only) <;> first | assumption | omega | ((try simp (disch := omega) only [w32_of, w64_of, w8_of]) <;> first | assumption | omega | (split <;> omega) | (refine And.intro ?_ ?_ <;> split <;> omega)) | omega), (by (try dsimp only) <;> first | assumption | omega | ((try simp (disch := omega) only [w32_of, w64_of, w8_of]) <;> first | assumption | omega | (split <;> omega) | (refine And.intro ?_ ?_ <;> split <;> omega)) | omega)⟩
          · try simp (disch := omega) only [w32_of, w64_of, w8_of, decide_eq_true_eq, decide_eq_false_iff_not, Bool.not_eq_true] at c42
            have c55 := ii_kR_planAt hσ_25 0
            have c56 := ii_kR_planAt hσ_7 0
            have c57 := ii_kR_pointAt hσ_25 0
            have c58 := ii_kR_pointAt hσ_7 0
            have c59 := ii_kR_resultMany hσ_25 0
            have c60 := ii_kR_resultMany hσ_7 0
            exact wp_some ⟨hσ_25, frσ_25, (by (try dsimp only) <;> first | assumption | omega | ((try simp (disch := omega) only [w32_of, w64_of, w8_of]) <;> first | assumption | omega | (split <;> omega) | (refine And.intro ?_ ?_ <;> split <;> omega)) | omega), (by (try dsimp only) <;> first | assumption | omega | ((try simp (disch := omega) only [w32_of, w64_of, w8_of]) <;> first | assumption | omega | (split <;> omega) | (refine And.intro ?_ ?_ <;> split <;> omega)) | omega), (by (try dsimp only) <;> first | assumption | omega | ((try simp (disch := omega) only [w32_of, w64_of, w8_of]) <;> first | assumption | omega | (split <;> omega) | (refine And.intro ?_ ?_ <;> split <;> omega)) | omega)⟩
        rintro σ_35 _ ⟨hσ_35, frσ_35, g61, g62, g63⟩
        have c64 := ii_kR_planAt hσ_35 0
        refine wp_bd (v_next (σ := σ_35) hσ_35 (by (try dsimp only) <;> first | assumption | omega | ((try simp (disch := omega) only [w32_of, w64_of, w8_of]) <;> first | assumption | omega | (split <;> omega) | (refine And.intro ?_ ?_ <;> split <;> omega)) | omega)) ?_
        rintro ⟨x_38, σ_37⟩ - y65
        try dsimp only at y65 ⊢
        obtain ⟨hσ_37, flσ_37, n1, n2⟩ := y65
        have frσ_37 : FR [kR_planAt, kR_pointAt, kR_result, kR_resultMany] σ σ_37 := FR_tr frσ_35 flσ_37 (by decide) (by decide)
        have c66 := ii_kR_planAt hσ_37 0
        try simp (disch := omega) only [w32_of, w64_of, w8_of] at n1
        have c67 := FR_at frσ_35 (c := kR_plan) (by decide) (σ_35 kR_planAt 0)
        try simp (disch := omega) only [w32_of, w64_of, w8_of] at n2
        refine wp_bd (v_next (σ := σ_37) hσ_37 (by (try dsimp only) <;> first | assumption | omega | ((try simp (disch := omega) only [w32_of, w64_of, w8_of]) <;> first | assumption | omega | (split <;> omega) | (refine And.intro ?_ ?_ <;> split <;> omega)) | omega)) ?_
        rintro ⟨x_41, σ_40⟩ - y68
        try dsimp only at y68 ⊢
        obtain ⟨hσ_40, flσ_40, n3, n4⟩ := y68
        have frσ_40 : FR [kR_planAt, kR_pointAt, kR_result, kR_resultMany] σ σ_40 := FR_tr frσ_37 flσ_40 (by decide) (by decide)
        have c69 := ii_kR_planAt hσ_40 0
        try simp (disch := omega) only [w32_of, w64_of, w8_of] at n3
        have c70 := FR_at flσ_37 (c := kR_plan) (by decide) (σ_37 kR_planAt 0)
        have c71 := FR_at frσ_35 (c := kR_plan) (by decide) (σ_37 kR_planAt 0)
        try simp (disch := omega) only [w32_of, w64_of, w8_of] at n4
        have plX : σ_40 kR_plan = σ kR_plan := funext (FR_at frσ_40 (by decide))
        have paX : σ_40 kR_planAt 0 - 2 = σ_7 kR_planAt 0 := by omega
        have pq40 : σ_40 kR_pointAt 0 = σ_7 kR_pointAt 0 := (FR_at flσ_40 (c := kR_pointAt) (by decide) 0).trans ((FR_at flσ_37 (c := kR_pointAt) (by decide) 0).trans (by assumption))
        have rm40 : σ_40 kR_resultMany 0 = σ_35 kR_resultMany 0 := (FR_at flσ_40 (c := kR_resultMany) (by decide) 0).trans (FR_at flσ_37 (c := kR_resultMany) (by decide) 0)
        have hx38 : x_38 = σ kR_plan (σ_7 kR_planAt 0) := by rw [n2, show σ_35 kR_planAt 0 = σ_7 kR_planAt 0 by omega]; exact FR_at frσ_35 (c := kR_plan) (by decide) _
        have hx41 : x_41 = σ kR_plan (σ_7 kR_planAt 0 + 1) := by rw [n4, show σ_37 kR_planAt 0 = σ_7 kR_planAt 0 + 1 by omega]; exact FR_at frσ_37 (c := kR_plan) (by decide) _
        have hbc : bC (σ kR_plan) (σ_7 kR_planAt 0) = 18 + 4 * eL (σ kR_plan) (σ_7 kR_planAt 0) + 33 * eP (σ kR_plan) (σ_7 kR_planAt 0) := rfl
        have c72 := FR_at flσ_40 (c := kR_plan) (by decide) (σ_40 kR_planAt 0 - 2)
        have c73 := FR_at flσ_37 (c := kR_plan) (by decide) (σ_40 kR_planAt 0 - 2)
        have c74 := FR_at frσ_35 (c := kR_plan) (by decide) (σ_40 kR_planAt 0 - 2)
        have c75 := FR_at flσ_40 (c := kR_plan) (by decide) ((σ_40 kR_planAt 0 - 2) + 1)
        have c76 := FR_at flσ_37 (c := kR_plan) (by decide) ((σ_40 kR_planAt 0 - 2) + 1)
        have c77 := FR_at frσ_35 (c := kR_plan) (by decide) ((σ_40 kR_planAt 0 - 2) + 1)
        have c78 := ii_kR_pointAt hσ_40 0
        have c79 := FR_at flσ_40 (c := kR_pointAt) (by decide) 0
        have c80 := ii_kR_pointAt hσ_37 0
        have c81 := FR_at flσ_37 (c := kR_pointAt) (by decide) 0
        have c82 := ii_kR_pointAt hσ_35 0
        have c83 := ii_kR_resultMany hσ_40 0
        have c84 := FR_at flσ_40 (c := kR_resultMany) (by decide) 0
        have c85 := ii_kR_resultMany hσ_37 0
        have c86 := FR_at flσ_37 (c := kR_resultMany) (by decide) 0
        have c87 := ii_kR_resultMany hσ_35 0
        refine wp_bd (v_putBody (σ := σ_40) (kind_0 := x_38) (n_0 := x_41) hσ_40 (UNt_f frσ_40 (by decide) w0) (by rw [plX, paX]; exact ho) (by rw [plX, paX]; omega) (by rw [plX, paX]; omega) (by (try dsimp only) <;> first | assumption | omega | ((try simp (disch := omega) only [w32_of, w64_of, w8_of]) <;> first | assumption | omega | (split <;> omega) | (refine And.intro ?_ ?_ <;> split <;> omega)) | omega) (by (try dsimp only) <;> first | assumption | omega | ((try simp (disch := omega) only [w32_of, w64_of, w8_of]) <;> first | assumption | omega | (split <;> omega) | (refine And.intro ?_ ?_ <;> split <;> omega)) | omega) (by rw [plX, paX]; omega) (by rw [plX, paX]; omega) (by rw [plX, paX]; omega)) ?_
        rintro σ_43 - ⟨hσ_43, flσ_43, pb1, pb2, pb3⟩
        have frσ_43 : FR [kR_planAt, kR_pointAt, kR_result, kR_resultMany] σ σ_43 := FR_tr frσ_40 flσ_43 (by decide) (by decide)
        have c88 := ii_kR_planAt hσ_43 0
        try simp (disch := omega) only [w32_of, w64_of, w8_of] at pb1
        have c89 := ii_kR_pointAt hσ_43 0
        try simp (disch := omega) only [w32_of, w64_of, w8_of] at pb2
        have c90 := ii_kR_resultMany hσ_43 0
        try simp (disch := omega) only [w32_of, w64_of, w8_of] at pb3
        rw [plX, paX] at pb1 pb2 pb3
        have gt2 : PT (σ kR_plan) kk (n_0 - (k_6 + 1)).toNat (σ_43 kR_planAt 0) Q := by rw [pb1]; exact hp3
        have gw2 : FLw σ s (σ_43 kR_planAt 0) (σ_43 kR_pointAt 0) := by rw [pb1, pb2, pq40]; exact hn
        exact wp_some (x_inl ⟨⟨hσ_43, frσ_43, (by (try dsimp only) <;> first | assumption | omega | ((try simp (disch := omega) only [w32_of, w64_of, w8_of]) <;> first | assumption | omega | (split <;> omega) | (refine And.intro ?_ ?_ <;> split <;> omega)) | omega), (by (try dsimp only) <;> (first | (rw [pa5, show n_0 - 0 = n_0 by omega]; exact w4) | exact gt2)), (by (try dsimp only) <;> (first | (rw [pa5, pq5]; exact w5) | exact gw2)), (by (try dsimp only) <;> first | assumption | omega | ((try simp (disch := omega) only [w32_of, w64_of, w8_of]) <;> first | assumption | omega | (split <;> omega) | (refine And.intro ?_ ?_ <;> split <;> omega)) | omega), (by (try dsimp only) <;> first | assumption | omega | ((try simp (disch := omega) only [w32_of, w64_of, w8_of]) <;> first | assumption | omega | (split <;> omega) | (refine And.intro ?_ ?_ <;> split <;> omega)) | omega)⟩, (by (try dsimp only) <;> first | assumption | omega | ((try simp (disch := omega) only [w32_of, w64_of, w8_of]) <;> first | assumption | omega | (split <;> omega) | (refine And.intro ?_ ?_ <;> split <;> omega)) | omega)⟩)
      · try simp (disch := omega) only [w32_of, w64_of, w8_of, decide_eq_true_eq, decide_eq_false_iff_not, Bool.not_eq_true] at c24
        have hq : σ_7 kR_planAt 0 = Q := by
          have z := gt
          rw [show (n_0 - k_6).toNat = 0 by omega] at z; exact z
        have c91 := ii_kR_planAt hσ_7 0
        have c92 := ii_kR_pointAt hσ_7 0
        have c93 := ii_kR_resultMany hσ_7 0
        exact wp_some (x_inr ⟨hσ_7, frσ_7, (by (try dsimp only) <;> first | assumption | omega | ((try simp (disch := omega) only [w32_of, w64_of, w8_of]) <;> first | assumption | omega | (split <;> omega) | (refine And.intro ?_ ?_ <;> split <;> omega)) | omega), (by (try dsimp only) <;> (exact gw)), (by (try dsimp only) <;> first | assumption | omega | ((try simp (disch := omega) only [w32_of, w64_of, w8_of]) <;> first | assumption | omega | (split <;> omega) | (refine And.intro ?_ ?_ <;> split <;> omega)) | omega)⟩)
    rintro ⟨k_48, σ_49⟩ _ y96
    try dsimp only at y96 ⊢
    obtain ⟨hσ_49, frσ_49, g94, gw49, g95⟩ := y96
    have hle49 := FLw_le gw49
    have c97 := ii_kR_resultMany hσ_49 0
    refine wp_bd (s_R_put (σ := σ_49) (c_0 := 41) hσ_49 (by (try dsimp only) <;> first | assumption | omega | ((try simp (disch := omega) only [w32_of, w64_of, w8_of]) <;> first | assumption | omega | (split <;> omega) | (refine And.intro ?_ ?_ <;> split <;> omega)) | omega) (by (try dsimp only) <;> first | assumption | omega | ((try simp (disch := omega) only [w32_of, w64_of, w8_of]) <;> first | assumption | omega | (split <;> omega) | (refine And.intro ?_ ?_ <;> split <;> omega)) | omega)) ?_
    rintro σ_51 - ⟨hσ_51, flσ_51, g98⟩
    have frσ_51 : FR [kR_planAt, kR_pointAt, kR_result, kR_resultMany] σ σ_51 := FR_tr frσ_49 flσ_51 (by decide) (by decide)
    have c99 := ii_kR_resultMany hσ_51 0
    try simp (disch := omega) only [w32_of, w64_of, w8_of] at g98
    have pa51 : σ_51 kR_planAt 0 = σ_49 kR_planAt 0 := FR_at flσ_51 (c := kR_planAt) (by decide) 0
    have pq51 : σ_51 kR_pointAt 0 = σ_49 kR_pointAt 0 := FR_at flσ_51 (c := kR_pointAt) (by decide) 0
    have gw51 : FLw σ s (σ_51 kR_planAt 0) (σ_51 kR_pointAt 0) := by rw [pa51, pq51]; exact gw49
    have c100 := ii_kR_planAt hσ_51 0
    have c101 := FR_at flσ_51 (c := kR_planAt) (by decide) 0
    have c102 := ii_kR_planAt hσ_49 0
    have c103 := ii_kR_pointAt hσ_51 0
    have c104 := FR_at flσ_51 (c := kR_pointAt) (by decide) 0
    have c105 := ii_kR_pointAt hσ_49 0
    exact wp_some ⟨hσ_51, frσ_51, (by (try dsimp only) <;> (first | omega | exact hq3)), (by (try dsimp only) <;> (first | exact gw3 | exact gw51)), (by (try dsimp only) <;> first | assumption | omega | ((try simp (disch := omega) only [w32_of, w64_of, w8_of]) <;> first | assumption | omega | (split <;> omega) | (refine And.intro ?_ ?_ <;> split <;> omega)) | omega)⟩
theorem v_leadsOn {σ : SG} {P : Int} {q : Int} (hσ : II σ) (w0 : 0 ≤ σ kR_levels 0 ∧ σ kR_levels 0 ≤ 50) (w1 : RM (σ kR_plan) (σ kR_left) (σ kR_levels 0).toNat P q) (w2 : σ kR_resultMany 0 + σ kR_levels 0 + 2 ≤ 131072) : wp_ (fR_leadsOn σ) (fun zz_ => II zz_.2 ∧ FR [kR_left, kR_levels, kR_result, kR_resultMany] σ zz_.2 ∧ (0 ≤ zz_.2 kR_levels 0 ∧ zz_.2 kR_levels 0 ≤ 50) ∧ ((zz_.1 = true) → HD (σ kR_plan) (zz_.2 kR_left) (zz_.2 kR_levels 0).toNat P q) ∧ (zz_.2 kR_resultMany 0 + zz_.2 kR_levels 0 ≤ σ kR_resultMany 0 + σ kR_levels 0 + 2)) := by
  unfold fR_leadsOn
  have c1 := ii_kR_levels hσ 0
  have c2 := ii_kR_resultMany hσ 0
  refine wp_bx (P := fun rr_ => II rr_ ∧ FR [kR_left, kR_levels, kR_result, kR_resultMany] σ rr_ ∧ (0 ≤ rr_ kR_levels 0 ∧ rr_ kR_levels 0 ≤ 50) ∧ (rr_ kR_resultMany 0 + rr_ kR_levels 0 ≤ σ kR_resultMany 0 + σ kR_levels 0)) ?_ ?_
  · refine wp_whl (fun ss_ => II ss_ ∧ FR [kR_left, kR_levels, kR_result, kR_resultMany] σ ss_ ∧ (0 ≤ ss_ kR_levels 0 ∧ ss_ kR_levels 0 ≤ 50) ∧ (RM (σ kR_plan) (ss_ kR_left) (ss_ kR_levels 0).toNat P q) ∧ (ss_ kR_resultMany 0 + ss_ kR_levels 0 ≤ σ kR_resultMany 0 + σ kR_levels 0)) (fun ss_ => (ss_ kR_levels 0).toNat) ⟨hσ, (FR_refl _ _), (by (try dsimp only) <;> first | assumption | omega | ((try simp (disch := omega) only [w32_of, w64_of, w8_of]) <;> first | assumption | omega | (split <;> omega) | (refine And.intro ?_ ?_ <;> split <;> omega)) | omega), (by (try dsimp only) <;> (first | exact w1 | exact rm23)), (by (try dsimp only) <;> first | assumption | omega | ((try simp (disch := omega) only [w32_of, w64_of, w8_of]) <;> first | assumption | omega | (split <;> omega) | (refine And.intro ?_ ?_ <;> split <;> omega)) | omega)⟩ ?_
    rintro σ_1 ⟨hσ_1, frσ_1, g3, gr, g4⟩
    have c6 := ii_kR_levels hσ_1 0
    have c7 := w32_rng (σ_1 kR_levels 0)
    refine wp_if (fun c5 => ?_) (fun c5 => ?_)
    · try simp (disch := omega) only [w32_of, w64_of, w8_of, decide_eq_true_eq, decide_eq_false_iff_not, Bool.not_eq_true] at c5
      have c8 := w32_rng ((σ_1 kR_levels 0) - 1)
      refine wp_rdI (by (try dsimp only) <;> first | assumption | omega | ((try simp (disch := omega) only [w32_of, w64_of, w8_of]) <;> first | assumption | omega | (split <;> omega) | (refine And.intro ?_ ?_ <;> split <;> omega)) | omega) (by (try dsimp only) <;> first | assumption | omega | ((try simp (disch := omega) only [w32_of, w64_of, w8_of]) <;> first | assumption | omega | (split <;> omega) | (refine And.intro ?_ ?_ <;> split <;> omega)) | omega) (fun x_10 e_x_10 => ?_)
      have b_x_10 : (-9223372036854775808) ≤ x_10 ∧ x_10 ≤ 9223372036854775807 := by rw [e_x_10]; exact ii_kR_left hσ_1 _
      try simp (disch := omega) only [w32_of, w64_of, w8_of] at e_x_10
      have c9 := ii_kR_left hσ_1 ((σ_1 kR_levels 0) - 1)
      have hx10 := e_x_10
      have hlc : (((σ_1 kR_levels 0 - 1).toNat : Nat) : Int) = σ_1 kR_levels 0 - 1 := by omega
      have hg1 : 1 ≤ σ_1 kR_left (σ_1 kR_levels 0 - 1) := by
        have z := gr
        rw [show (σ_1 kR_levels 0).toNat = (σ_1 kR_levels 0 - 1).toNat + 1 by omega] at z
        have y := z.1
        rw [hlc] at y; exact y
      refine wp_waI hσ_1 b_kR_left (by (try dsimp only) <;> first | assumption | omega | ((try simp (disch := omega) only [w32_of, w64_of, w8_of]) <;> first | assumption | omega | (split <;> omega) | (refine And.intro ?_ ?_ <;> split <;> omega)) | omega) (by (try dsimp only) <;> first | assumption | omega | ((try simp (disch := omega) only [w32_of, w64_of, w8_of]) <;> first | assumption | omega | (split <;> omega) | (refine And.intro ?_ ?_ <;> split <;> omega)) | omega) (by (try dsimp only) <;> first | assumption | omega | ((try simp (disch := omega) only [w32_of, w64_of, w8_of]) <;> first | assumption | omega | (split <;> omega) | (refine And.intro ?_ ?_ <;> split <;> omega)) | omega) (fun σ_12 hσ_12 eσ_12 => ?_)
      try simp (disch := omega) only [w32_of, w64_of, w8_of] at eσ_12
      have flσ_12 := FR_sg eσ_12
      have frσ_12 : FR [kR_left, kR_levels, kR_result, kR_resultMany] σ σ_12 := FR_tr frσ_1 flσ_12 (by decide) (by decide)
      have c10 := ii_kR_levels hσ_12 0
      have c11 := FR_at flσ_12 (c := kR_levels) (by decide) 0
      have c12 := w32_rng ((σ_12 kR_levels 0) - 1)
      refine wp_rdI (by (try dsimp only) <;> first | assumption | omega | ((try simp (disch := omega) only [w32_of, w64_of, w8_of]) <;> first | assumption | omega | (split <;> omega) | (refine And.intro ?_ ?_ <;> split <;> omega)) | omega) (by (try dsimp only) <;> first | assumption | omega | ((try simp (disch := omega) only [w32_of, w64_of, w8_of]) <;> first | assumption | omega | (split <;> omega) | (refine And.intro ?_ ?_ <;> split <;> omega)) | omega) (fun x_14 e_x_14 => ?_)
      have b_x_14 : (-9223372036854775808) ≤ x_14 ∧ x_14 ≤ 9223372036854775807 := by rw [e_x_14]; exact ii_kR_left hσ_12 _
      try simp (disch := omega) only [w32_of, w64_of, w8_of] at e_x_14
      have c13 := ii_kR_left hσ_12 ((σ_12 kR_levels 0) - 1)
      have l12 : σ_12 kR_levels 0 = σ_1 kR_levels 0 := by rw [eσ_12, sg_nc (by decide)]
      have lb : σ_12 kR_left (((σ_1 kR_levels 0 - 1).toNat : Nat) : Int) = σ_1 kR_left (((σ_1 kR_levels 0 - 1).toNat : Nat) : Int) - 1 := by rw [hlc, eσ_12, sg_at, hx10]
      have lc : ∀ i : Int, i ≠ (((σ_1 kR_levels 0 - 1).toNat : Nat) : Int) → σ_12 kR_left i = σ_1 kR_left i := fun i hi => by rw [hlc] at hi; rw [eσ_12, sg_ni hi]
      have hgo := RM_go (by rw [show (σ_1 kR_levels 0 - 1).toNat + 1 = (σ_1 kR_levels 0).toNat by omega]; exact gr) lb lc
      rw [show (σ_1 kR_levels 0 - 1).toNat + 1 = (σ_1 kR_levels 0).toNat by omega, hlc] at hgo
      have hx14 : x_14 = σ_12 kR_left (σ_1 kR_levels 0 - 1) := by rw [← l12]; assumption
      have rm12 : σ_12 kR_resultMany 0 = σ_1 kR_resultMany 0 := by rw [eσ_12, sg_nc (by decide)]
      have c15 := w64_rng x_14
      refine wp_if (fun c14 => ?_) (fun c14 => ?_)
      · try simp (disch := omega) only [w32_of, w64_of, w8_of, decide_eq_true_eq, decide_eq_false_iff_not, Bool.not_eq_true] at c14
        have c16 := ii_kR_resultMany hσ_12 0
        have c17 := FR_at flσ_12 (c := kR_resultMany) (by decide) 0
        have c18 := ii_kR_resultMany hσ_1 0
        refine wp_bd (s_R_put (σ := σ_12) (c_0 := 44) hσ_12 (by (try dsimp only) <;> first | assumption | omega | ((try simp (disch := omega) only [w32_of, w64_of, w8_of]) <;> first | assumption | omega | (split <;> omega) | (refine And.intro ?_ ?_ <;> split <;> omega)) | omega) (by (try dsimp only) <;> first | assumption | omega | ((try simp (disch := omega) only [w32_of, w64_of, w8_of]) <;> first | assumption | omega | (split <;> omega) | (refine And.intro ?_ ?_ <;> split <;> omega)) | omega)) ?_
        rintro σ_18 - ⟨hσ_18, flσ_18, g19⟩
        have frσ_18 : FR [kR_left, kR_levels, kR_result, kR_resultMany] σ σ_18 := FR_tr frσ_12 flσ_18 (by decide) (by decide)
        have c20 := ii_kR_resultMany hσ_18 0
        try simp (disch := omega) only [w32_of, w64_of, w8_of] at g19
        refine wp_bd (s_R_put (σ := σ_18) (c_0 := 32) hσ_18 (by (try dsimp only) <;> first | assumption | omega | ((try simp (disch := omega) only [w32_of, w64_of, w8_of]) <;> first | assumption | omega | (split <;> omega) | (refine And.intro ?_ ?_ <;> split <;> omega)) | omega) (by (try dsimp only) <;> first | assumption | omega | ((try simp (disch := omega) only [w32_of, w64_of, w8_of]) <;> first | assumption | omega | (split <;> omega) | (refine And.intro ?_ ?_ <;> split <;> omega)) | omega)) ?_
        rintro σ_20 - ⟨hσ_20, flσ_20, g21⟩
        have frσ_20 : FR [kR_left, kR_levels, kR_result, kR_resultMany] σ σ_20 := FR_tr frσ_18 flσ_20 (by decide) (by decide)
        have c22 := ii_kR_resultMany hσ_20 0
        try simp (disch := omega) only [w32_of, w64_of, w8_of] at g21
        have l20 : σ_20 kR_levels 0 = σ_1 kR_levels 0 := (FR_at flσ_20 (c := kR_levels) (by decide) 0).trans ((FR_at flσ_18 (c := kR_levels) (by decide) 0).trans l12)
        have f20 : σ_20 kR_left = σ_12 kR_left := funext (fun i => (FR_at flσ_20 (c := kR_left) (by decide) i).trans (FR_at flσ_18 (c := kR_left) (by decide) i))
        have hd20 : HD (σ kR_plan) (σ_20 kR_left) (σ_20 kR_levels 0).toNat P q := by rw [f20, l20]; exact hgo.1 (by omega)
        have c23 := ii_kR_levels hσ_20 0
        have c24 := FR_at flσ_20 (c := kR_levels) (by decide) 0
        have c25 := ii_kR_levels hσ_18 0
        have c26 := FR_at flσ_18 (c := kR_levels) (by decide) 0
        exact wp_some (x_inr (x_inr ⟨hσ_20, frσ_20, (by (try dsimp only) <;> first | assumption | omega | ((try simp (disch := omega) only [w32_of, w64_of, w8_of]) <;> first | assumption | omega | (split <;> omega) | (refine And.intro ?_ ?_ <;> split <;> omega)) | omega), (by (try dsimp only) <;> (first | (intro h; exact absurd h (by decide)) | exact fun _ => hd20)), (by (try dsimp only) <;> first | assumption | omega | ((try simp (disch := omega) only [w32_of, w64_of, w8_of]) <;> first | assumption | omega | (split <;> omega) | (refine And.intro ?_ ?_ <;> split <;> omega)) | omega)⟩))
      · try simp (disch := omega) only [w32_of, w64_of, w8_of, decide_eq_true_eq, decide_eq_false_iff_not, Bool.not_eq_true] at c14
        have c27 := ii_kR_resultMany hσ_12 0
        have c28 := FR_at flσ_12 (c := kR_resultMany) (by decide) 0
        have c29 := ii_kR_resultMany hσ_1 0
        refine wp_bd (s_R_put (σ := σ_12) (c_0 := 41) hσ_12 (by (try dsimp only) <;> first | assumption | omega | ((try simp (disch := omega) only [w32_of, w64_of, w8_of]) <;> first | assumption | omega | (split <;> omega) | (refine And.intro ?_ ?_ <;> split <;> omega)) | omega) (by (try dsimp only) <;> first | assumption | omega | ((try simp (disch := omega) only [w32_of, w64_of, w8_of]) <;> first | assumption | omega | (split <;> omega) | (refine And.intro ?_ ?_ <;> split <;> omega)) | omega)) ?_
        rintro σ_22 - ⟨hσ_22, flσ_22, g30⟩
        have frσ_22 : FR [kR_left, kR_levels, kR_result, kR_resultMany] σ σ_22 := FR_tr frσ_12 flσ_22 (by decide) (by decide)
        have c31 := ii_kR_resultMany hσ_22 0
        try simp (disch := omega) only [w32_of, w64_of, w8_of] at g30
        have c32 := ii_kR_levels hσ_22 0
        have c33 := FR_at flσ_22 (c := kR_levels) (by decide) 0
        refine wp_wfI hσ_22 b_kR_levels (by (try dsimp only) <;> first | assumption | omega | ((try simp (disch := omega) only [w32_of, w64_of, w8_of]) <;> first | assumption | omega | (split <;> omega) | (refine And.intro ?_ ?_ <;> split <;> omega)) | omega) (fun σ_23 hσ_23 eσ_23 => ?_)
        try simp (disch := omega) only [w32_of, w64_of, w8_of] at eσ_23
        have flσ_23 := FR_sg eσ_23
        have frσ_23 : FR [kR_left, kR_levels, kR_result, kR_resultMany] σ σ_23 := FR_tr frσ_22 flσ_23 (by decide) (by decide)
        have l22 : σ_22 kR_levels 0 = σ_1 kR_levels 0 := (FR_at flσ_22 (c := kR_levels) (by decide) 0).trans l12
        have l23 : σ_23 kR_levels 0 = σ_1 kR_levels 0 - 1 := by rw [sg_val eσ_23, l22]
        have f23 : σ_23 kR_left = σ_12 kR_left := funext (fun i => by rw [eσ_23, sg_nc (by decide)]; exact FR_at flσ_22 (c := kR_left) (by decide) i)
        have rm23 : RM (σ kR_plan) (σ_23 kR_left) (σ_23 kR_levels 0).toNat P q := by rw [f23, l23]; exact hgo.2 (by omega)
        have r23 : σ_23 kR_resultMany 0 = σ_22 kR_resultMany 0 := by rw [eσ_23, sg_nc (by decide)]
        have c34 := ii_kR_levels hσ_23 0
        have c35 := sg_val eσ_23
        have c36 := ii_kR_resultMany hσ_23 0
        have c37 := FR_at flσ_23 (c := kR_resultMany) (by decide) 0
        exact wp_some (x_inl ⟨⟨hσ_23, frσ_23, (by (try dsimp only) <;> first | assumption | omega | ((try simp (disch := omega) only [w32_of, w64_of, w8_of]) <;> first | assumption | omega | (split <;> omega) | (refine And.intro ?_ ?_ <;> split <;> omega)) | omega), (by (try dsimp only) <;> (first | exact w1 | exact rm23)), (by (try dsimp only) <;> first | assumption | omega | ((try simp (disch := omega) only [w32_of, w64_of, w8_of]) <;> first | assumption | omega | (split <;> omega) | (refine And.intro ?_ ?_ <;> split <;> omega)) | omega)⟩, (by (try dsimp only) <;> first | assumption | omega | ((try simp (disch := omega) only [w32_of, w64_of, w8_of]) <;> first | assumption | omega | (split <;> omega) | (refine And.intro ?_ ?_ <;> split <;> omega)) | omega)⟩)
    · try simp (disch := omega) only [w32_of, w64_of, w8_of, decide_eq_true_eq, decide_eq_false_iff_not, Bool.not_eq_true] at c5
      have c38 := ii_kR_resultMany hσ_1 0
      exact wp_some (x_inr (x_inl ⟨hσ_1, frσ_1, (by (try dsimp only) <;> first | assumption | omega | ((try simp (disch := omega) only [w32_of, w64_of, w8_of]) <;> first | assumption | omega | (split <;> omega) | (refine And.intro ?_ ?_ <;> split <;> omega)) | omega), (by (try dsimp only) <;> first | assumption | omega | ((try simp (disch := omega) only [w32_of, w64_of, w8_of]) <;> first | assumption | omega | (split <;> omega) | (refine And.intro ?_ ?_ <;> split <;> omega)) | omega)⟩))
  rintro σ_26 ⟨hσ_26, frσ_26, g39, g40⟩
  have c41 := ii_kR_levels hσ_26 0
  have c42 := ii_kR_resultMany hσ_26 0
  exact wp_some ⟨hσ_26, frσ_26, (by (try dsimp only) <;> first | assumption | omega | ((try simp (disch := omega) only [w32_of, w64_of, w8_of]) <;> first | assumption | omega | (split <;> omega) | (refine And.intro ?_ ?_ <;> split <;> omega)) | omega), (fun q => (by cases q)), (by (try dsimp only) <;> first | assumption | omega | ((try simp (disch := omega) only [w32_of, w64_of, w8_of]) <;> first | assumption | omega | (split <;> omega) | (refine And.intro ?_ ?_ <;> split <;> omega)) | omega)⟩
