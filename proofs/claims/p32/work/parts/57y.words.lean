theorem s_R_writeWords {σ : SG} {slot_0 : Int} (hσ : II σ) (qslot_0 : (-2147483648) ≤ slot_0 ∧ slot_0 ≤ 2147483647) (w0 : SHs σ) (w1 : UNt σ) : wp_ (fR_writeWords σ slot_0) (fun zz_ => II zz_.2 ∧ FR [kR_left, kR_levels, kR_planAt, kR_pointAt, kR_result, kR_resultMany, kR_thrown] σ zz_.2) := by
  unfold fR_writeWords
  refine wp_wfI hσ b_kR_thrown (by (try dsimp only) <;> first | assumption | omega | ((try simp (disch := omega) only [w32_of, w64_of, w8_of]) <;> first | assumption | omega | (split <;> omega) | (refine And.intro ?_ ?_ <;> split <;> omega)) | omega) (fun σ_1 hσ_1 eσ_1 => ?_)
  try simp (disch := omega) only [w32_of, w64_of, w8_of] at eσ_1
  have flσ_1 := FR_sg eσ_1
  have frσ_1 : FR [kR_left, kR_levels, kR_planAt, kR_pointAt, kR_result, kR_resultMany, kR_thrown] σ σ_1 := FR_le flσ_1 (by decide)
  have c3 := ii_kR_thrown hσ_1 0
  have c4 := sg_val eσ_1
  refine wp_fails hσ_1 (by (try dsimp only) <;> first | assumption | omega | ((try simp (disch := omega) only [w32_of, w64_of, w8_of]) <;> first | assumption | omega | (split <;> omega) | (refine And.intro ?_ ?_ <;> split <;> omega)) | omega) (by decide) (fun σ_27 hσ_27 flσ_27 e1 e2 => ?_)
  try dsimp only
  have frσ_27 : FR [kR_left, kR_levels, kR_planAt, kR_pointAt, kR_result, kR_resultMany, kR_thrown] σ σ_27 := FR_tr frσ_1 flσ_27 (by decide) (by decide)
  refine wp_if (fun c5 => ?_) (fun c5 => ?_)
  · have k6 := e1 c5
    try simp (disch := omega) only [w32_of, w64_of, w8_of, decide_eq_true_eq, decide_eq_false_iff_not, Bool.not_eq_true, fR_isSlot] at c5
    exact wp_some ⟨hσ_27, frσ_27⟩
  · have k7 := e2 c5
    try simp (disch := omega) only [w32_of, w64_of, w8_of, decide_eq_true_eq, decide_eq_false_iff_not, Bool.not_eq_true, fR_isSlot] at c5
    refine wp_bd (P := fun rr_ => ((rr_ = false) → 0 < σ_27 kR_planMany slot_0)) ?_ ?_
    · refine wp_bd (v_has (σ := σ_27) (slot_0 := slot_0) hσ_27 (by (try dsimp only) <;> first | assumption | omega | ((try simp (disch := omega) only [w32_of, w64_of, w8_of]) <;> first | assumption | omega | (split <;> omega) | (refine And.intro ?_ ?_ <;> split <;> omega)) | omega)) ?_
      rintro x_31 - g8
      have c9 := ii_kR_planMany hσ_27 slot_0
      have c10 := FR_at flσ_27 (c := kR_planMany) (by decide) slot_0
      have c11 := ii_kR_planMany hσ_1 slot_0
      have c12 := FR_at flσ_1 (c := kR_planMany) (by decide) slot_0
      have c13 := ii_kR_planMany hσ slot_0
      try simp (disch := omega) only [w32_of, w64_of, w8_of] at g8
      refine wp_if (fun c14 => ?_) (fun c14 => ?_)
      · have k15 := g8.mp c14
        try simp (disch := omega) only [w32_of, w64_of, w8_of] at k15
        try simp (disch := omega) only [w32_of, w64_of, w8_of, decide_eq_true_eq, decide_eq_false_iff_not, Bool.not_eq_true] at c14
        exact wp_some (by (try dsimp only) <;> (first | (intro h; exact absurd h (by decide)) | (intro _; omega)))
      · have k16 := fun q => c14 (g8.mpr q)
        try simp (disch := omega) only [w32_of, w64_of, w8_of] at k16
        try simp (disch := omega) only [w32_of, w64_of, w8_of, decide_eq_true_eq, decide_eq_false_iff_not, Bool.not_eq_true] at c14
        exact wp_some (fun q => (by cases q))
    rintro x_35 _ g35
    have c19 := ii_kR_thrown hσ_27 0
    refine wp_fails hσ_27 (by (try dsimp only) <;> first | assumption | omega | ((try simp (disch := omega) only [w32_of, w64_of, w8_of]) <;> first | assumption | omega | (split <;> omega) | (refine And.intro ?_ ?_ <;> split <;> omega)) | omega) (by decide) (fun σ_37 hσ_37 flσ_37 e17 e18 => ?_)
    try dsimp only
    have frσ_37 : FR [kR_left, kR_levels, kR_planAt, kR_pointAt, kR_result, kR_resultMany, kR_thrown] σ σ_37 := FR_tr frσ_27 flσ_37 (by decide) (by decide)
    refine wp_if (fun c20 => ?_) (fun c20 => ?_)
    · have k22 := e17 c20
      try simp (disch := omega) only [w32_of, w64_of, w8_of, decide_eq_true_eq, decide_eq_false_iff_not, Bool.not_eq_true] at c20
      exact wp_some ⟨hσ_37, frσ_37⟩
    · have k23 := g35 (Bool.eq_false_iff.mpr c20)
      try simp (disch := omega) only [w32_of, w64_of, w8_of] at k23
      have k24 := e18 c20
      try simp (disch := omega) only [w32_of, w64_of, w8_of, decide_eq_true_eq, decide_eq_false_iff_not, Bool.not_eq_true] at c20
      have p27 := g35 (by simp_all)
      have pq27 : σ_27 kR_planMany slot_0 = σ kR_planMany slot_0 := FR_at frσ_27 (by decide) _
      refine wp_wfI hσ_37 b_kR_resultMany (by (try dsimp only) <;> first | assumption | omega | ((try simp (disch := omega) only [w32_of, w64_of, w8_of]) <;> first | assumption | omega | (split <;> omega) | (refine And.intro ?_ ?_ <;> split <;> omega)) | omega) (fun σ_40 hσ_40 eσ_40 => ?_)
      try simp (disch := omega) only [w32_of, w64_of, w8_of] at eσ_40
      have flσ_40 := FR_sg eσ_40
      have frσ_40 : FR [kR_left, kR_levels, kR_planAt, kR_pointAt, kR_result, kR_resultMany, kR_thrown] σ σ_40 := FR_tr frσ_37 flσ_40 (by decide) (by decide)
      refine wp_wfI hσ_40 b_kR_planAt (by (try dsimp only) <;> first | assumption | omega | ((try simp (disch := omega) only [w32_of, w64_of, w8_of]) <;> first | assumption | omega | (split <;> omega) | (refine And.intro ?_ ?_ <;> split <;> omega)) | omega) (fun σ_41 hσ_41 eσ_41 => ?_)
      try simp (disch := omega) only [w32_of, w64_of, w8_of] at eσ_41
      have flσ_41 := FR_sg eσ_41
      have frσ_41 : FR [kR_left, kR_levels, kR_planAt, kR_pointAt, kR_result, kR_resultMany, kR_thrown] σ σ_41 := FR_tr frσ_40 flσ_41 (by decide) (by decide)
      refine wp_wfI hσ_41 b_kR_pointAt (by (try dsimp only) <;> first | assumption | omega | ((try simp (disch := omega) only [w32_of, w64_of, w8_of]) <;> first | assumption | omega | (split <;> omega) | (refine And.intro ?_ ?_ <;> split <;> omega)) | omega) (fun σ_42 hσ_42 eσ_42 => ?_)
      try simp (disch := omega) only [w32_of, w64_of, w8_of] at eσ_42
      have flσ_42 := FR_sg eσ_42
      have frσ_42 : FR [kR_left, kR_levels, kR_planAt, kR_pointAt, kR_result, kR_resultMany, kR_thrown] σ σ_42 := FR_tr frσ_41 flσ_42 (by decide) (by decide)
      have hpm := ii_kR_planMany hσ slot_0
      have hqm := ii_kR_pointMany hσ slot_0
      refine wp_wfI hσ_42 b_kR_levels (by (try dsimp only) <;> first | assumption | omega | ((try simp (disch := omega) only [w32_of, w64_of, w8_of]) <;> first | assumption | omega | (split <;> omega) | (refine And.intro ?_ ?_ <;> split <;> omega)) | omega) (fun σ_43 hσ_43 eσ_43 => ?_)
      try simp (disch := omega) only [w32_of, w64_of, w8_of] at eσ_43
      have flσ_43 := FR_sg eσ_43
      have frσ_43 : FR [kR_left, kR_levels, kR_planAt, kR_pointAt, kR_result, kR_resultMany, kR_thrown] σ σ_43 := FR_tr frσ_42 flσ_43 (by decide) (by decide)
      have pa43 : σ_43 kR_planAt 0 = 2048 * slot_0 := by simp (disch := first | decide | omega) only [eσ_43, eσ_42, eσ_41, sg_at, sg_nc, sg_ni]
      have pb43 : σ_43 kR_pointAt 0 = 2048 * slot_0 := by simp (disch := first | decide | omega) only [eσ_43, eσ_42, sg_at, sg_nc, sg_ni]
      have rm43 : σ_43 kR_resultMany 0 = 0 := by simp (disch := first | decide | omega) only [eσ_43, eσ_42, eσ_41, eσ_40, sg_at, sg_nc, sg_ni]
      have lv43 : σ_43 kR_levels 0 = 0 := sg_val eσ_43
      obtain ⟨QE, hQE⟩ : ∃ z, z = 2048 * slot_0 + σ kR_planMany slot_0 := ⟨_, rfl⟩
      have hd0 : HD (σ kR_plan) (σ_43 kR_left) (σ_43 kR_levels 0).toNat (σ_43 kR_planAt 0) QE := by
        rw [lv43, pa43]
        rcases w0 slot_0 (by omega) (by omega) with h | ⟨_, _, f, t⟩
        · omega
        · exact ⟨QE, f, by rw [hQE]; exact t, rfl⟩
      refine wp_bd (P := fun rr_ => II rr_.2 ∧ FR [kR_left, kR_levels, kR_planAt, kR_pointAt, kR_result, kR_resultMany, kR_thrown] σ rr_.2 ∧ (0 ≤ rr_.2 kR_resultMany 0)) ?_ ?_
      · have c25 := ii_kR_levels hσ_43 0
        have c26 := sg_val eσ_43
        have c27 := ii_kR_planAt hσ_43 0
        have c28 := FR_at flσ_43 (c := kR_planAt) (by decide) 0
        have c29 := ii_kR_planAt hσ_42 0
        have c30 := FR_at flσ_42 (c := kR_planAt) (by decide) 0
        have c31 := ii_kR_planAt hσ_41 0
        have c32 := sg_val eσ_41
        have c33 := ii_kR_pointAt hσ_43 0
        have c34 := FR_at flσ_43 (c := kR_pointAt) (by decide) 0
        have c35 := ii_kR_pointAt hσ_42 0
        have c36 := sg_val eσ_42
        have c37 := ii_kR_resultMany hσ_43 0
        have c38 := FR_at flσ_43 (c := kR_resultMany) (by decide) 0
        have c39 := ii_kR_resultMany hσ_42 0
        have c40 := FR_at flσ_42 (c := kR_resultMany) (by decide) 0
        have c41 := ii_kR_resultMany hσ_41 0
        have c42 := FR_at flσ_41 (c := kR_resultMany) (by decide) 0
        have c43 := ii_kR_resultMany hσ_40 0
        have c44 := sg_val eσ_40
        refine wp_whl (fun ss_ => II ss_.2 ∧ FR [kR_left, kR_levels, kR_planAt, kR_pointAt, kR_result, kR_resultMany, kR_thrown] σ ss_.2 ∧ (0 ≤ ss_.2 kR_levels 0 ∧ ss_.2 kR_levels 0 ≤ 50) ∧ (FLw σ slot_0 (ss_.2 kR_planAt 0) (ss_.2 kR_pointAt 0)) ∧ ((ss_.1 = true) → HD (σ kR_plan) (ss_.2 kR_left) (ss_.2 kR_levels 0).toNat (ss_.2 kR_planAt 0) QE) ∧ (ss_.2 kR_resultMany 0 + ss_.2 kR_levels 0 ≤ 25 * (ss_.2 kR_planAt 0 - 2048 * slot_0) + 33 * (ss_.2 kR_pointAt 0 - 2048 * slot_0))) (fun ss_ => (2048 * slot_0 + 2050 - ss_.2 kR_planAt 0).toNat) ⟨hσ_43, frσ_43, (by (try dsimp only) <;> first | assumption | omega | ((try simp (disch := omega) only [w32_of, w64_of, w8_of]) <;> first | assumption | omega | (split <;> omega) | (refine And.intro ?_ ?_ <;> split <;> omega)) | omega), (by (try dsimp only) <;> (first | exact gw2 | (rw [pa43, pb43]; exact FLw_0 (w0 _ (by omega) (by omega))))), (by (try dsimp only) <;> (first | exact fun _ => hd0 | exact fun _ => hd68 | exact hd83)), (by (try dsimp only) <;> first | assumption | omega | ((try simp (disch := omega) only [w32_of, w64_of, w8_of]) <;> first | assumption | omega | (split <;> omega) | (refine And.intro ?_ ?_ <;> split <;> omega)) | omega)⟩ ?_
        rintro ⟨more_44, σ_45⟩ y47
        try dsimp only at y47 ⊢
        obtain ⟨hσ_45, frσ_45, g45, gw, gh, g46⟩ := y47
        refine wp_if (fun c48 => ?_) (fun c48 => ?_)
        · have k49 := gh c48
          try simp (disch := omega) only [w32_of, w64_of, w8_of] at k49
          try simp (disch := omega) only [w32_of, w64_of, w8_of, decide_eq_true_eq, decide_eq_false_iff_not, Bool.not_eq_true] at c48
          obtain ⟨rr, ff, tu, hrm⟩ := gh (by assumption)
          have hle := FLw_le gw
          have hrl := RM_le hrm
          have htl := TU_le tu
          obtain ⟨ho, hn, h2, h3, h4, h5, -⟩ := FLw_hd gw (by omega)
          have ho1 := ho.1
          have ho2 := ho.2.1
          have ho3 := ho.2.2.1
          have hle2 := FLw_le hn
          have t1 := TU_1 tu
          have c50 := ii_kR_planAt hσ_45 0
          refine wp_bd (v_next (σ := σ_45) hσ_45 (by (try dsimp only) <;> first | assumption | omega | ((try simp (disch := omega) only [w32_of, w64_of, w8_of]) <;> first | assumption | omega | (split <;> omega) | (refine And.intro ?_ ?_ <;> split <;> omega)) | omega)) ?_
          rintro ⟨x_56, σ_55⟩ - y51
          try dsimp only at y51 ⊢
          obtain ⟨hσ_55, flσ_55, n1, n2⟩ := y51
          have frσ_55 : FR [kR_left, kR_levels, kR_planAt, kR_pointAt, kR_result, kR_resultMany, kR_thrown] σ σ_55 := FR_tr frσ_45 flσ_55 (by decide) (by decide)
          have c52 := ii_kR_planAt hσ_55 0
          try simp (disch := omega) only [w32_of, w64_of, w8_of] at n1
          have c53 := FR_at frσ_45 (c := kR_plan) (by decide) (σ_45 kR_planAt 0)
          try simp (disch := omega) only [w32_of, w64_of, w8_of] at n2
          refine wp_bd (v_next (σ := σ_55) hσ_55 (by (try dsimp only) <;> first | assumption | omega | ((try simp (disch := omega) only [w32_of, w64_of, w8_of]) <;> first | assumption | omega | (split <;> omega) | (refine And.intro ?_ ?_ <;> split <;> omega)) | omega)) ?_
          rintro ⟨x_59, σ_58⟩ - y54
          try dsimp only at y54 ⊢
          obtain ⟨hσ_58, flσ_58, n3, n4⟩ := y54
          have frσ_58 : FR [kR_left, kR_levels, kR_planAt, kR_pointAt, kR_result, kR_resultMany, kR_thrown] σ σ_58 := FR_tr frσ_55 flσ_58 (by decide) (by decide)
          have c55 := ii_kR_planAt hσ_58 0
          try simp (disch := omega) only [w32_of, w64_of, w8_of] at n3
          have c56 := FR_at flσ_55 (c := kR_plan) (by decide) (σ_55 kR_planAt 0)
          have c57 := FR_at frσ_45 (c := kR_plan) (by decide) (σ_55 kR_planAt 0)
          try simp (disch := omega) only [w32_of, w64_of, w8_of] at n4
          have hx56 : x_56 = σ kR_plan (σ_45 kR_planAt 0) := n2.trans (FR_at frσ_45 (c := kR_plan) (by decide) _)
          have hx59 : x_59 = σ kR_plan (σ_45 kR_planAt 0 + 1) := by rw [n4, n1]; exact FR_at frσ_55 (c := kR_plan) (by decide) _
          have pa58 : σ_58 kR_planAt 0 = σ_45 kR_planAt 0 + 2 := by omega
          have pb58 : σ_58 kR_pointAt 0 = σ_45 kR_pointAt 0 := (FR_at flσ_58 (c := kR_pointAt) (by decide) 0).trans (FR_at flσ_55 (c := kR_pointAt) (by decide) 0)
          have rm58 : σ_58 kR_resultMany 0 = σ_45 kR_resultMany 0 := (FR_at flσ_58 (c := kR_resultMany) (by decide) 0).trans (FR_at flσ_55 (c := kR_resultMany) (by decide) 0)
          have lv58 : σ_58 kR_levels 0 = σ_45 kR_levels 0 := (FR_at flσ_58 (c := kR_levels) (by decide) 0).trans (FR_at flσ_55 (c := kR_levels) (by decide) 0)
          have lf58 : σ_58 kR_left = σ_45 kR_left := funext (fun i => (FR_at flσ_58 (c := kR_left) (by decide) i).trans (FR_at flσ_55 (c := kR_left) (by decide) i))
          have c58 := ii_kR_resultMany hσ_58 0
          have c59 := FR_at flσ_58 (c := kR_resultMany) (by decide) 0
          have c60 := ii_kR_resultMany hσ_55 0
          have c61 := FR_at flσ_55 (c := kR_resultMany) (by decide) 0
          have c62 := ii_kR_resultMany hσ_45 0
          refine wp_bd (v_putWord (σ := σ_58) (kind_0 := x_56) hσ_58 (by (try dsimp only) <;> first | assumption | omega | ((try simp (disch := omega) only [w32_of, w64_of, w8_of]) <;> first | assumption | omega | (split <;> omega) | (refine And.intro ?_ ?_ <;> split <;> omega)) | omega) (by (try dsimp only) <;> first | assumption | omega | ((try simp (disch := omega) only [w32_of, w64_of, w8_of]) <;> first | assumption | omega | (split <;> omega) | (refine And.intro ?_ ?_ <;> split <;> omega)) | omega)) ?_
          rintro σ_61 - ⟨hσ_61, flσ_61, g63⟩
          have frσ_61 : FR [kR_left, kR_levels, kR_planAt, kR_pointAt, kR_result, kR_resultMany, kR_thrown] σ σ_61 := FR_tr frσ_58 flσ_61 (by decide) (by decide)
          have c64 := ii_kR_resultMany hσ_61 0
          try simp (disch := omega) only [w32_of, w64_of, w8_of] at g63
          refine wp_bd (s_R_put (σ := σ_61) (c_0 := 32) hσ_61 (by (try dsimp only) <;> first | assumption | omega | ((try simp (disch := omega) only [w32_of, w64_of, w8_of]) <;> first | assumption | omega | (split <;> omega) | (refine And.intro ?_ ?_ <;> split <;> omega)) | omega) (by (try dsimp only) <;> first | assumption | omega | ((try simp (disch := omega) only [w32_of, w64_of, w8_of]) <;> first | assumption | omega | (split <;> omega) | (refine And.intro ?_ ?_ <;> split <;> omega)) | omega)) ?_
          rintro σ_63 - ⟨hσ_63, flσ_63, g65⟩
          have frσ_63 : FR [kR_left, kR_levels, kR_planAt, kR_pointAt, kR_result, kR_resultMany, kR_thrown] σ σ_63 := FR_tr frσ_61 flσ_63 (by decide) (by decide)
          have c66 := ii_kR_resultMany hσ_63 0
          try simp (disch := omega) only [w32_of, w64_of, w8_of] at g65
          have pa63 : σ_63 kR_planAt 0 = σ_45 kR_planAt 0 + 2 := (FR_at flσ_63 (c := kR_planAt) (by decide) 0).trans ((FR_at flσ_61 (c := kR_planAt) (by decide) 0).trans pa58)
          have pb63 : σ_63 kR_pointAt 0 = σ_45 kR_pointAt 0 := (FR_at flσ_63 (c := kR_pointAt) (by decide) 0).trans ((FR_at flσ_61 (c := kR_pointAt) (by decide) 0).trans pb58)
          have lv63 : σ_63 kR_levels 0 = σ_45 kR_levels 0 := (FR_at flσ_63 (c := kR_levels) (by decide) 0).trans ((FR_at flσ_61 (c := kR_levels) (by decide) 0).trans lv58)
          have lf63 : σ_63 kR_left = σ_45 kR_left := (funext (fun i => (FR_at flσ_63 (c := kR_left) (by decide) i).trans (FR_at flσ_61 (c := kR_left) (by decide) i))).trans lf58
          have plX : σ_63 kR_plan = σ kR_plan := funext (FR_at frσ_63 (by decide))
          have paX : σ_63 kR_planAt 0 - 2 = σ_45 kR_planAt 0 := by omega
          have hbc : bC (σ kR_plan) (σ_45 kR_planAt 0) = 18 + 4 * eL (σ kR_plan) (σ_45 kR_planAt 0) + 33 * eP (σ kR_plan) (σ_45 kR_planAt 0) := rfl
          have c68 := w32_rng x_56
          have c69 := w32_rng x_59
          refine wp_if (fun c67 => ?_) (fun c67 => ?_)
          · try simp (disch := omega) only [w32_of, w64_of, w8_of, decide_eq_true_eq, decide_eq_false_iff_not, Bool.not_eq_true] at c67
            have t7 : 0 < 50 - (σ_45 kR_levels 0).toNat ∧ ∃ g, TU (σ kR_plan) g (50 - (σ_45 kR_levels 0).toNat - 1) x_59.toNat (σ_45 kR_planAt 0 + 2) rr := by
              rw [hx59]
              rcases t1 with h | h | ⟨_, _, c, g, d⟩
              · omega
              · omega
              · exact ⟨c, g, d⟩
            obtain ⟨t70, g7, t71⟩ := t7
            refine wp_bd (s_R_put (σ := σ_63) (c_0 := 40) hσ_63 (by (try dsimp only) <;> first | assumption | omega | ((try simp (disch := omega) only [w32_of, w64_of, w8_of]) <;> first | assumption | omega | (split <;> omega) | (refine And.intro ?_ ?_ <;> split <;> omega)) | omega) (by (try dsimp only) <;> first | assumption | omega | ((try simp (disch := omega) only [w32_of, w64_of, w8_of]) <;> first | assumption | omega | (split <;> omega) | (refine And.intro ?_ ?_ <;> split <;> omega)) | omega)) ?_
            rintro σ_65 - ⟨hσ_65, flσ_65, g70⟩
            have frσ_65 : FR [kR_left, kR_levels, kR_planAt, kR_pointAt, kR_result, kR_resultMany, kR_thrown] σ σ_65 := FR_tr frσ_63 flσ_65 (by decide) (by decide)
            have c71 := ii_kR_resultMany hσ_65 0
            try simp (disch := omega) only [w32_of, w64_of, w8_of] at g70
            have lv65 : σ_65 kR_levels 0 = σ_45 kR_levels 0 := (FR_at flσ_65 (c := kR_levels) (by decide) 0).trans lv63
            have c72 := ii_kR_levels hσ_65 0
            have c73 := FR_at flσ_65 (c := kR_levels) (by decide) 0
            have c74 := ii_kR_levels hσ_63 0
            have c75 := FR_at flσ_63 (c := kR_levels) (by decide) 0
            have c76 := ii_kR_levels hσ_61 0
            have c77 := FR_at flσ_61 (c := kR_levels) (by decide) 0
            have c78 := ii_kR_levels hσ_58 0
            have c79 := FR_at flσ_58 (c := kR_levels) (by decide) 0
            have c80 := ii_kR_levels hσ_55 0
            have c81 := FR_at flσ_55 (c := kR_levels) (by decide) 0
            have c82 := ii_kR_levels hσ_45 0
            have c83 := w32_rng (σ_65 kR_levels 0)
            refine wp_waI hσ_65 b_kR_left (by (try dsimp only) <;> first | assumption | omega | ((try simp (disch := omega) only [w32_of, w64_of, w8_of]) <;> first | assumption | omega | (split <;> omega) | (refine And.intro ?_ ?_ <;> split <;> omega)) | omega) (by (try dsimp only) <;> first | assumption | omega | ((try simp (disch := omega) only [w32_of, w64_of, w8_of]) <;> first | assumption | omega | (split <;> omega) | (refine And.intro ?_ ?_ <;> split <;> omega)) | omega) (by (try dsimp only) <;> first | assumption | omega | ((try simp (disch := omega) only [w32_of, w64_of, w8_of]) <;> first | assumption | omega | (split <;> omega) | (refine And.intro ?_ ?_ <;> split <;> omega)) | omega) (fun σ_66 hσ_66 eσ_66 => ?_)
            try simp (disch := omega) only [w32_of, w64_of, w8_of] at eσ_66
            have flσ_66 := FR_sg eσ_66
            have frσ_66 : FR [kR_left, kR_levels, kR_planAt, kR_pointAt, kR_result, kR_resultMany, kR_thrown] σ σ_66 := FR_tr frσ_65 flσ_66 (by decide) (by decide)
            have c84 := ii_kR_levels hσ_66 0
            have c85 := FR_at flσ_66 (c := kR_levels) (by decide) 0
            refine wp_wfI hσ_66 b_kR_levels (by (try dsimp only) <;> first | assumption | omega | ((try simp (disch := omega) only [w32_of, w64_of, w8_of]) <;> first | assumption | omega | (split <;> omega) | (refine And.intro ?_ ?_ <;> split <;> omega)) | omega) (fun σ_68 hσ_68 eσ_68 => ?_)
            try simp (disch := omega) only [w32_of, w64_of, w8_of] at eσ_68
            have flσ_68 := FR_sg eσ_68
            have frσ_68 : FR [kR_left, kR_levels, kR_planAt, kR_pointAt, kR_result, kR_resultMany, kR_thrown] σ σ_68 := FR_tr frσ_66 flσ_68 (by decide) (by decide)
            have l66 : σ_66 kR_levels 0 = σ_45 kR_levels 0 := by rw [eσ_66, sg_nc (by decide)]; exact lv65
            have l68 : σ_68 kR_levels 0 = σ_45 kR_levels 0 + 1 := by rw [sg_val eσ_68, l66]
            have hcL : ((((σ_45 kR_levels 0).toNat) : Nat) : Int) = σ_45 kR_levels 0 := by omega
            have w59 : w32 x_59 = x_59 := w32_of (by omega) (by omega)
            have lb : σ_68 kR_left ((((σ_45 kR_levels 0).toNat) : Nat) : Int) = x_59 := by rw [hcL, eσ_68, sg_nc (by decide), eσ_66, ← lv65, sg_at]
            have lc : ∀ i : Int, i ≠ ((((σ_45 kR_levels 0).toNat) : Nat) : Int) → σ_68 kR_left i = σ_45 kR_left i := fun i hi => by rw [hcL] at hi; rw [eσ_68, sg_nc (by decide), eσ_66, sg_ni (by omega), FR_at flσ_65 (c := kR_left) (by decide), lf63]
            have pa68 : σ_68 kR_planAt 0 = σ_45 kR_planAt 0 + 2 := by simp (disch := first | decide | omega) only [eσ_68, eσ_66, sg_at, sg_nc, sg_ni]; exact (FR_at flσ_65 (c := kR_planAt) (by decide) 0).trans pa63
            have pb68 : σ_68 kR_pointAt 0 = σ_45 kR_pointAt 0 := by simp (disch := first | decide | omega) only [eσ_68, eσ_66, sg_at, sg_nc, sg_ni]; exact (FR_at flσ_65 (c := kR_pointAt) (by decide) 0).trans pb63
            have rm68 : σ_68 kR_resultMany 0 = σ_65 kR_resultMany 0 := by simp (disch := first | decide | omega) only [eσ_68, eσ_66, sg_at, sg_nc, sg_ni]
            have hd68 : HD (σ kR_plan) (σ_68 kR_left) (σ_68 kR_levels 0).toNat (σ_68 kR_planAt 0) QE := by
              rw [l68, pa68, show (σ_45 kR_levels 0 + 1).toNat = (σ_45 kR_levels 0).toNat + 1 by omega]
              exact HD_push (by omega) ⟨by omega, by omega⟩ t71 hrm lb lc
            have gw2 : FLw σ slot_0 (σ_68 kR_planAt 0) (σ_68 kR_pointAt 0) := by
              have z := hn
              rw [el_n (by omega), ep_g (by omega), Int.add_zero] at z
              rw [pa68, pb68]; exact z
            have c86 := ii_kR_levels hσ_68 0
            have c87 := sg_val eσ_68
            have c88 := ii_kR_planAt hσ_68 0
            have c89 := FR_at flσ_68 (c := kR_planAt) (by decide) 0
            have c90 := ii_kR_planAt hσ_66 0
            have c91 := FR_at flσ_66 (c := kR_planAt) (by decide) 0
            have c92 := ii_kR_planAt hσ_65 0
            have c93 := FR_at flσ_65 (c := kR_planAt) (by decide) 0
            have c94 := ii_kR_planAt hσ_63 0
            have c95 := FR_at flσ_63 (c := kR_planAt) (by decide) 0
            have c96 := ii_kR_planAt hσ_61 0
            have c97 := FR_at flσ_61 (c := kR_planAt) (by decide) 0
            have c98 := ii_kR_pointAt hσ_68 0
            have c99 := FR_at flσ_68 (c := kR_pointAt) (by decide) 0
            have c100 := ii_kR_pointAt hσ_66 0
            have c101 := FR_at flσ_66 (c := kR_pointAt) (by decide) 0
            have c102 := ii_kR_pointAt hσ_65 0
            have c103 := FR_at flσ_65 (c := kR_pointAt) (by decide) 0
            have c104 := ii_kR_pointAt hσ_63 0
            have c105 := FR_at flσ_63 (c := kR_pointAt) (by decide) 0
            have c106 := ii_kR_pointAt hσ_61 0
            have c107 := FR_at flσ_61 (c := kR_pointAt) (by decide) 0
            have c108 := ii_kR_pointAt hσ_58 0
            have c109 := FR_at flσ_58 (c := kR_pointAt) (by decide) 0
            have c110 := ii_kR_pointAt hσ_55 0
            have c111 := FR_at flσ_55 (c := kR_pointAt) (by decide) 0
            have c112 := ii_kR_pointAt hσ_45 0
            have c113 := ii_kR_resultMany hσ_68 0
            have c114 := FR_at flσ_68 (c := kR_resultMany) (by decide) 0
            have c115 := ii_kR_resultMany hσ_66 0
            have c116 := FR_at flσ_66 (c := kR_resultMany) (by decide) 0
            exact wp_some (x_inl ⟨⟨hσ_68, frσ_68, (by (try dsimp only) <;> first | assumption | omega | ((try simp (disch := omega) only [w32_of, w64_of, w8_of]) <;> first | assumption | omega | (split <;> omega) | (refine And.intro ?_ ?_ <;> split <;> omega)) | omega), (by (try dsimp only) <;> (first | exact gw2 | (rw [pa43, pb43]; exact FLw_0 (w0 _ (by omega) (by omega))))), (by (try dsimp only) <;> (first | exact fun _ => hd0 | exact fun _ => hd68 | exact hd83)), (by (try dsimp only) <;> first | assumption | omega | ((try simp (disch := omega) only [w32_of, w64_of, w8_of]) <;> first | assumption | omega | (split <;> omega) | (refine And.intro ?_ ?_ <;> split <;> omega)) | omega)⟩, (by (try dsimp only) <;> first | assumption | omega | ((try simp (disch := omega) only [w32_of, w64_of, w8_of]) <;> first | assumption | omega | (split <;> omega) | (refine And.intro ?_ ?_ <;> split <;> omega)) | omega)⟩)
          · try simp (disch := omega) only [w32_of, w64_of, w8_of, decide_eq_true_eq, decide_eq_false_iff_not, Bool.not_eq_true] at c67
            refine wp_bd (P := fun rr_ => II rr_ ∧ FR [kR_left, kR_levels, kR_planAt, kR_pointAt, kR_result, kR_resultMany, kR_thrown] σ rr_ ∧ (rr_ kR_planAt 0 = rr) ∧ (FLw σ slot_0 (rr_ kR_planAt 0) (rr_ kR_pointAt 0)) ∧ (rr_ kR_resultMany 0 + 2 ≤ σ_45 kR_resultMany 0 + 25 * (rr - σ_45 kR_planAt 0) + 33 * (rr_ kR_pointAt 0 - σ_45 kR_pointAt 0)) ∧ (rr_ kR_levels 0 = σ_45 kR_levels 0) ∧ (rr_ kR_left = σ_45 kR_left)) ?_ ?_
            · refine wp_if (fun c117 => ?_) (fun c117 => ?_)
              · try simp (disch := omega) only [w32_of, w64_of, w8_of, decide_eq_true_eq, decide_eq_false_iff_not, Bool.not_eq_true] at c117
                have c118 := ii_kR_planAt hσ_63 0
                have c119 := FR_at flσ_63 (c := kR_planAt) (by decide) 0
                have c120 := ii_kR_planAt hσ_61 0
                have c121 := FR_at flσ_61 (c := kR_planAt) (by decide) 0
                have c122 := FR_at flσ_63 (c := kR_plan) (by decide) (σ_63 kR_planAt 0 - 2)
                have c123 := FR_at flσ_61 (c := kR_plan) (by decide) (σ_63 kR_planAt 0 - 2)
                have c124 := FR_at flσ_58 (c := kR_plan) (by decide) (σ_63 kR_planAt 0 - 2)
                have c125 := FR_at flσ_55 (c := kR_plan) (by decide) (σ_63 kR_planAt 0 - 2)
                have c126 := FR_at frσ_45 (c := kR_plan) (by decide) (σ_63 kR_planAt 0 - 2)
                have c127 := FR_at flσ_63 (c := kR_plan) (by decide) ((σ_63 kR_planAt 0 - 2) + 1)
                have c128 := FR_at flσ_61 (c := kR_plan) (by decide) ((σ_63 kR_planAt 0 - 2) + 1)
                have c129 := FR_at flσ_58 (c := kR_plan) (by decide) ((σ_63 kR_planAt 0 - 2) + 1)
                have c130 := FR_at flσ_55 (c := kR_plan) (by decide) ((σ_63 kR_planAt 0 - 2) + 1)
                have c131 := FR_at frσ_45 (c := kR_plan) (by decide) ((σ_63 kR_planAt 0 - 2) + 1)
                have c132 := ii_kR_pointAt hσ_63 0
                have c133 := FR_at flσ_63 (c := kR_pointAt) (by decide) 0
                have c134 := ii_kR_pointAt hσ_61 0
                have c135 := FR_at flσ_61 (c := kR_pointAt) (by decide) 0
                have c136 := ii_kR_pointAt hσ_58 0
                have c137 := FR_at flσ_58 (c := kR_pointAt) (by decide) 0
                have c138 := ii_kR_pointAt hσ_55 0
                have c139 := FR_at flσ_55 (c := kR_pointAt) (by decide) 0
                have c140 := ii_kR_pointAt hσ_45 0
                refine wp_bd (v_putBody (σ := σ_63) (kind_0 := x_56) (n_0 := x_59) hσ_63 (UNt_f frσ_63 (by decide) w1) (by rw [plX, paX]; exact ho) (by rw [plX, paX]; omega) (by rw [plX, paX]; omega) (by (try dsimp only) <;> first | assumption | omega | ((try simp (disch := omega) only [w32_of, w64_of, w8_of]) <;> first | assumption | omega | (split <;> omega) | (refine And.intro ?_ ?_ <;> split <;> omega)) | omega) (by (try dsimp only) <;> first | assumption | omega | ((try simp (disch := omega) only [w32_of, w64_of, w8_of]) <;> first | assumption | omega | (split <;> omega) | (refine And.intro ?_ ?_ <;> split <;> omega)) | omega) (by rw [plX, paX]; omega) (by rw [plX, paX]; omega) (by rw [plX, paX]; omega)) ?_
                rintro σ_76 - ⟨hσ_76, flσ_76, pb1, pb2, pb3⟩
                have frσ_76 : FR [kR_left, kR_levels, kR_planAt, kR_pointAt, kR_result, kR_resultMany, kR_thrown] σ σ_76 := FR_tr frσ_63 flσ_76 (by decide) (by decide)
                have c141 := ii_kR_planAt hσ_76 0
                try simp (disch := omega) only [w32_of, w64_of, w8_of] at pb1
                have c142 := ii_kR_pointAt hσ_76 0
                try simp (disch := omega) only [w32_of, w64_of, w8_of] at pb2
                have c143 := ii_kR_resultMany hσ_76 0
                try simp (disch := omega) only [w32_of, w64_of, w8_of] at pb3
                rw [plX, paX] at pb1 pb2 pb3
                have qB : σ_76 kR_planAt 0 = rr := by
                  rcases t1 with ⟨_, _, _, d⟩ | h | h
                  · rw [pb1, d]
                  · omega
                  · omega
                have gwB : FLw σ slot_0 (σ_76 kR_planAt 0) (σ_76 kR_pointAt 0) := by rw [pb1, pb2, pb63]; exact hn
                have lB : σ_76 kR_levels 0 = σ_45 kR_levels 0 := (FR_at flσ_76 (c := kR_levels) (by decide) 0).trans lv63
                have fB : σ_76 kR_left = σ_45 kR_left := (funext (fun i => FR_at flσ_76 (c := kR_left) (by decide) i)).trans lf63
                have c144 := ii_kR_levels hσ_76 0
                have c145 := FR_at flσ_76 (c := kR_levels) (by decide) 0
                have c146 := ii_kR_levels hσ_63 0
                have c147 := FR_at flσ_63 (c := kR_levels) (by decide) 0
                have c148 := ii_kR_levels hσ_61 0
                have c149 := FR_at flσ_61 (c := kR_levels) (by decide) 0
                have c150 := ii_kR_levels hσ_58 0
                have c151 := FR_at flσ_58 (c := kR_levels) (by decide) 0
                have c152 := ii_kR_levels hσ_55 0
                have c153 := FR_at flσ_55 (c := kR_levels) (by decide) 0
                have c154 := ii_kR_levels hσ_45 0
                exact wp_some ⟨hσ_76, frσ_76, (by (try dsimp only) <;> (first | exact qB | exact pp1)), (by (try dsimp only) <;> (first | exact gwB | exact gwP)), (by (try dsimp only) <;> first | assumption | omega | ((try simp (disch := omega) only [w32_of, w64_of, w8_of]) <;> first | assumption | omega | (split <;> omega) | (refine And.intro ?_ ?_ <;> split <;> omega)) | omega), (by (try dsimp only) <;> (first | exact lB | exact lP)), (by (try dsimp only) <;> (first | exact fB | exact fP))⟩
              · try simp (disch := omega) only [w32_of, w64_of, w8_of, decide_eq_true_eq, decide_eq_false_iff_not, Bool.not_eq_true] at c117
                have hpt : PT (σ kR_plan) (if x_56 = 7 then 1 else x_56 - 3) x_59.toNat (σ_45 kR_planAt 0 + 2) rr := by
                  rw [hx56, hx59]
                  rcases t1 with h | ⟨b1, b2, b3, b4⟩ | ⟨a, b, c, g, d⟩
                  · omega
                  · rw [if_neg (by omega)]; exact b4
                  · rw [if_pos a]
                    rw [show (σ kR_plan (σ_45 kR_planAt 0 + 1)).toNat = 0 by omega] at d ⊢
                    exact TU_0 d
                have gwX : FLw σ slot_0 (σ_45 kR_planAt 0 + 2) (σ_45 kR_pointAt 0) := by
                  have z := hn
                  rw [el_n (by omega), ep_g (by omega), Int.add_zero] at z
                  exact z
                have pm63 : σ_63 kR_planMany slot_0 = σ kR_planMany slot_0 := FR_at frσ_63 (by decide) _
                have qm63 : σ_63 kR_pointMany slot_0 = σ kR_pointMany slot_0 := FR_at frσ_63 (by decide) _
                have hptl := PT_le hpt
                have c155 := ii_kR_planAt hσ_63 0
                have c156 := FR_at flσ_63 (c := kR_planAt) (by decide) 0
                have c157 := ii_kR_planAt hσ_61 0
                have c158 := FR_at flσ_61 (c := kR_planAt) (by decide) 0
                have c159 := ii_kR_pointAt hσ_63 0
                have c160 := FR_at flσ_63 (c := kR_pointAt) (by decide) 0
                have c161 := ii_kR_pointAt hσ_61 0
                have c162 := FR_at flσ_61 (c := kR_pointAt) (by decide) 0
                have c163 := ii_kR_pointAt hσ_58 0
                have c164 := FR_at flσ_58 (c := kR_pointAt) (by decide) 0
                have c165 := ii_kR_pointAt hσ_55 0
                have c166 := FR_at flσ_55 (c := kR_pointAt) (by decide) 0
                have c167 := ii_kR_pointAt hσ_45 0
                have c168 := ii_kR_planMany hσ_63 slot_0
                have c169 := FR_at flσ_63 (c := kR_planMany) (by decide) slot_0
                have c170 := ii_kR_planMany hσ_61 slot_0
                have c171 := FR_at flσ_61 (c := kR_planMany) (by decide) slot_0
                have c172 := ii_kR_planMany hσ_58 slot_0
                have c173 := FR_at flσ_58 (c := kR_planMany) (by decide) slot_0
                have c174 := ii_kR_planMany hσ_55 slot_0
                have c175 := FR_at flσ_55 (c := kR_planMany) (by decide) slot_0
                have c176 := ii_kR_planMany hσ_45 slot_0
                have c177 := FR_at frσ_45 (c := kR_planMany) (by decide) slot_0
                have c178 := ii_kR_planMany hσ slot_0
                have c179 := ii_kR_pointMany hσ_63 slot_0
                have c180 := FR_at flσ_63 (c := kR_pointMany) (by decide) slot_0
                have c181 := ii_kR_pointMany hσ_61 slot_0
                have c182 := FR_at flσ_61 (c := kR_pointMany) (by decide) slot_0
                have c183 := ii_kR_pointMany hσ_58 slot_0
                have c184 := FR_at flσ_58 (c := kR_pointMany) (by decide) slot_0
                have c185 := ii_kR_pointMany hσ_55 slot_0
                have c186 := FR_at flσ_55 (c := kR_pointMany) (by decide) slot_0
                have c187 := ii_kR_pointMany hσ_45 slot_0
                have c188 := FR_at frσ_45 (c := kR_pointMany) (by decide) slot_0
                have c189 := ii_kR_pointMany hσ slot_0
                refine wp_bd (v_putParts (σ := σ_63) (n_0 := x_59) (s := slot_0) (kk := (if x_56 = 7 then 1 else x_56 - 3)) (Q := rr) hσ_63 (UNt_f frσ_63 (by decide) w1) (by (try dsimp only) <;> first | assumption | omega | ((try simp (disch := omega) only [w32_of, w64_of, w8_of]) <;> first | assumption | omega | (split <;> omega) | (refine And.intro ?_ ?_ <;> split <;> omega)) | omega) (by split <;> omega) (by (try dsimp only) <;> first | assumption | omega | ((try simp (disch := omega) only [w32_of, w64_of, w8_of]) <;> first | assumption | omega | (split <;> omega) | (refine And.intro ?_ ?_ <;> split <;> omega)) | omega) (by rw [plX, pa63]; exact hpt) (by rw [pa63, pb63]; exact FLw_f frσ_63 (by decide) gwX) (by (try dsimp only) <;> first | assumption | omega | ((try simp (disch := omega) only [w32_of, w64_of, w8_of]) <;> first | assumption | omega | (split <;> omega) | (refine And.intro ?_ ?_ <;> split <;> omega)) | omega) (by (try dsimp only) <;> first | assumption | omega | ((try simp (disch := omega) only [w32_of, w64_of, w8_of]) <;> first | assumption | omega | (split <;> omega) | (refine And.intro ?_ ?_ <;> split <;> omega)) | omega)) ?_
                rintro σ_79 - ⟨hσ_79, flσ_79, pp1, pp2, pp3⟩
                have frσ_79 : FR [kR_left, kR_levels, kR_planAt, kR_pointAt, kR_result, kR_resultMany, kR_thrown] σ σ_79 := FR_tr frσ_63 flσ_79 (by decide) (by decide)
                have c190 := ii_kR_planAt hσ_79 0
                try simp (disch := omega) only [w32_of, w64_of, w8_of] at pp1
                have c191 := ii_kR_pointAt hσ_79 0
                try simp (disch := omega) only [w32_of, w64_of, w8_of] at pp2
                have c192 := ii_kR_resultMany hσ_79 0
                try simp (disch := omega) only [w32_of, w64_of, w8_of] at pp3
                have gwP : FLw σ slot_0 (σ_79 kR_planAt 0) (σ_79 kR_pointAt 0) := FLw_pl pp2 plX.symm pm63.symm qm63.symm
                have lP : σ_79 kR_levels 0 = σ_45 kR_levels 0 := (FR_at flσ_79 (c := kR_levels) (by decide) 0).trans lv63
                have fP : σ_79 kR_left = σ_45 kR_left := (funext (fun i => FR_at flσ_79 (c := kR_left) (by decide) i)).trans lf63
                have c193 := ii_kR_levels hσ_79 0
                have c194 := FR_at flσ_79 (c := kR_levels) (by decide) 0
                have c195 := ii_kR_levels hσ_63 0
                have c196 := FR_at flσ_63 (c := kR_levels) (by decide) 0
                have c197 := ii_kR_levels hσ_61 0
                have c198 := FR_at flσ_61 (c := kR_levels) (by decide) 0
                have c199 := ii_kR_levels hσ_58 0
                have c200 := FR_at flσ_58 (c := kR_levels) (by decide) 0
                have c201 := ii_kR_levels hσ_55 0
                have c202 := FR_at flσ_55 (c := kR_levels) (by decide) 0
                have c203 := ii_kR_levels hσ_45 0
                exact wp_some ⟨hσ_79, frσ_79, (by (try dsimp only) <;> (first | exact qB | exact pp1)), (by (try dsimp only) <;> (first | exact gwB | exact gwP)), (by (try dsimp only) <;> first | assumption | omega | ((try simp (disch := omega) only [w32_of, w64_of, w8_of]) <;> first | assumption | omega | (split <;> omega) | (refine And.intro ?_ ?_ <;> split <;> omega)) | omega), (by (try dsimp only) <;> (first | exact lB | exact lP)), (by (try dsimp only) <;> (first | exact fB | exact fP))⟩
            rintro σ_81 _ ⟨hσ_81, frσ_81, gq, gw81, g204, l81, f81⟩
            have plY : σ_81 kR_plan = σ kR_plan := funext (FR_at frσ_81 (by decide))
            have hle81 := FLw_le gw81
            have c205 := ii_kR_levels hσ_81 0
            have c206 := ii_kR_resultMany hσ_81 0
            refine wp_bd (v_leadsOn (σ := σ_81) (P := rr) (q := QE) hσ_81 (by (try dsimp only) <;> first | assumption | omega | ((try simp (disch := omega) only [w32_of, w64_of, w8_of]) <;> first | assumption | omega | (split <;> omega) | (refine And.intro ?_ ?_ <;> split <;> omega)) | omega) (by rw [plY, f81, l81]; exact hrm) (by (try dsimp only) <;> first | assumption | omega | ((try simp (disch := omega) only [w32_of, w64_of, w8_of]) <;> first | assumption | omega | (split <;> omega) | (refine And.intro ?_ ?_ <;> split <;> omega)) | omega)) ?_
            rintro ⟨x_84, σ_83⟩ - y207
            try dsimp only at y207 ⊢
            obtain ⟨hσ_83, flσ_83, lo1, lo2, lo3⟩ := y207
            have frσ_83 : FR [kR_left, kR_levels, kR_planAt, kR_pointAt, kR_result, kR_resultMany, kR_thrown] σ σ_83 := FR_tr frσ_81 flσ_83 (by decide) (by decide)
            have c208 := ii_kR_levels hσ_83 0
            try simp (disch := omega) only [w32_of, w64_of, w8_of] at lo1
            try simp (disch := omega) only [w32_of, w64_of, w8_of] at lo2
            have c209 := ii_kR_resultMany hσ_83 0
            try simp (disch := omega) only [w32_of, w64_of, w8_of] at lo3
            have pa83 : σ_83 kR_planAt 0 = rr := (FR_at flσ_83 (c := kR_planAt) (by decide) 0).trans gq
            have pb83 : σ_83 kR_pointAt 0 = σ_81 kR_pointAt 0 := FR_at flσ_83 (c := kR_pointAt) (by decide) 0
            have gw2 : FLw σ slot_0 (σ_83 kR_planAt 0) (σ_83 kR_pointAt 0) := by rw [pa83, pb83, ← gq]; exact gw81
            have hd83 : x_84 = true → HD (σ kR_plan) (σ_83 kR_left) (σ_83 kR_levels 0).toNat (σ_83 kR_planAt 0) QE := fun h => by rw [pa83, ← plY]; exact lo2 h
            have c210 := ii_kR_planAt hσ_83 0
            have c211 := FR_at flσ_83 (c := kR_planAt) (by decide) 0
            have c212 := ii_kR_planAt hσ_81 0
            have c213 := ii_kR_pointAt hσ_83 0
            have c214 := FR_at flσ_83 (c := kR_pointAt) (by decide) 0
            have c215 := ii_kR_pointAt hσ_81 0
            exact wp_some (x_inl ⟨⟨hσ_83, frσ_83, (by (try dsimp only) <;> first | assumption | omega | ((try simp (disch := omega) only [w32_of, w64_of, w8_of]) <;> first | assumption | omega | (split <;> omega) | (refine And.intro ?_ ?_ <;> split <;> omega)) | omega), (by (try dsimp only) <;> (first | exact gw2 | (rw [pa43, pb43]; exact FLw_0 (w0 _ (by omega) (by omega))))), (by (try dsimp only) <;> (first | exact fun _ => hd0 | exact fun _ => hd68 | exact hd83)), (by (try dsimp only) <;> first | assumption | omega | ((try simp (disch := omega) only [w32_of, w64_of, w8_of]) <;> first | assumption | omega | (split <;> omega) | (refine And.intro ?_ ?_ <;> split <;> omega)) | omega)⟩, (by (try dsimp only) <;> first | assumption | omega | ((try simp (disch := omega) only [w32_of, w64_of, w8_of]) <;> first | assumption | omega | (split <;> omega) | (refine And.intro ?_ ?_ <;> split <;> omega)) | omega)⟩)
        · try simp (disch := omega) only [w32_of, w64_of, w8_of, decide_eq_true_eq, decide_eq_false_iff_not, Bool.not_eq_true] at c48
          have c217 := ii_kR_resultMany hσ_45 0
          exact wp_some (x_inr ⟨hσ_45, frσ_45, (by (try dsimp only) <;> first | assumption | omega | ((try simp (disch := omega) only [w32_of, w64_of, w8_of]) <;> first | assumption | omega | (split <;> omega) | (refine And.intro ?_ ?_ <;> split <;> omega)) | omega)⟩)
      rintro ⟨more_95, σ_96⟩ _ y219
      try dsimp only at y219 ⊢
      obtain ⟨hσ_96, frσ_96, g218⟩ := y219
      exact wp_some ⟨hσ_96, frσ_96⟩
