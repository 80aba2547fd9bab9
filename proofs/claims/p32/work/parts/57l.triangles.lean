theorem s_R_triangles {σ : SG} {slot_0 : Int} {to_0 : Int} (hσ : II σ) (qslot_0 : (-2147483648) ≤ slot_0 ∧ slot_0 ≤ 2147483647) (qto_0 : (-2147483648) ≤ to_0 ∧ to_0 ≤ 2147483647) (w0 : SHs σ) : wp_ (fR_triangles σ slot_0 to_0) (fun zz_ => II zz_.2 ∧ FR [kR_circleMany, kR_isDone, kR_limbs, kR_onCircle, kR_plan, kR_planMany, kR_pointMany, kR_sign, kR_spotX, kR_spotY, kR_spots, kR_thrown, kR_triangleA, kR_triangleB, kR_triangleC, kR_triangleMany, kR_w, kR_waitFrom, kR_waitTo, kR_waits, kR_xs, kR_ys] σ zz_.2 ∧ (SHs zz_.2)) := by
  unfold fR_triangles
  refine wp_wfI hσ b_kR_thrown (by (try dsimp only) <;> first | assumption | omega | ((try simp (disch := omega) only [w32_of, w64_of, w8_of]) <;> first | assumption | omega | (split <;> omega) | (refine And.intro ?_ ?_ <;> split <;> omega)) | omega) (fun σ_1 hσ_1 eσ_1 => ?_)
  try simp (disch := omega) only [w32_of, w64_of, w8_of] at eσ_1
  have flσ_1 := FR_sg eσ_1
  have frσ_1 : FR [kR_circleMany, kR_isDone, kR_limbs, kR_onCircle, kR_plan, kR_planMany, kR_pointMany, kR_sign, kR_spotX, kR_spotY, kR_spots, kR_thrown, kR_triangleA, kR_triangleB, kR_triangleC, kR_triangleMany, kR_w, kR_waitFrom, kR_waitTo, kR_waits, kR_xs, kR_ys] σ σ_1 := FR_le flσ_1 (by decide)
  have c3 := ii_kR_thrown hσ_1 0
  have c4 := sg_val eσ_1
  refine wp_fails hσ_1 (by (try dsimp only) <;> first | assumption | omega | ((try simp (disch := omega) only [w32_of, w64_of, w8_of]) <;> first | assumption | omega | (split <;> omega) | (refine And.intro ?_ ?_ <;> split <;> omega)) | omega) (by decide) (fun σ_45 hσ_45 flσ_45 e1 e2 => ?_)
  try dsimp only
  have frσ_45 : FR [kR_circleMany, kR_isDone, kR_limbs, kR_onCircle, kR_plan, kR_planMany, kR_pointMany, kR_sign, kR_spotX, kR_spotY, kR_spots, kR_thrown, kR_triangleA, kR_triangleB, kR_triangleC, kR_triangleMany, kR_w, kR_waitFrom, kR_waitTo, kR_waits, kR_xs, kR_ys] σ σ_45 := FR_tr frσ_1 flσ_45 (by decide) (by decide)
  have s45 : SHs σ_45 := SHs_f flσ_45 (by decide) (SHs_f flσ_1 (by decide) w0)
  refine wp_if (fun c5 => ?_) (fun c5 => ?_)
  · have k6 := e1 c5
    try simp (disch := omega) only [w32_of, w64_of, w8_of, decide_eq_true_eq, decide_eq_false_iff_not, Bool.not_eq_true, fR_isSlot] at c5
    exact wp_some ⟨hσ_45, frσ_45, (by (try dsimp only) <;> (first | exact s120 | exact s74 | exact s67 | exact s55 | exact s45))⟩
  · have k7 := e2 c5
    try simp (disch := omega) only [w32_of, w64_of, w8_of, decide_eq_true_eq, decide_eq_false_iff_not, Bool.not_eq_true, fR_isSlot] at c5
    refine wp_bdk ?_
    refine wp_bd (v_has (σ := σ_45) (slot_0 := slot_0) hσ_45 (by (try dsimp only) <;> first | assumption | omega | ((try simp (disch := omega) only [w32_of, w64_of, w8_of]) <;> first | assumption | omega | (split <;> omega) | (refine And.intro ?_ ?_ <;> split <;> omega)) | omega)) ?_
    rintro x_49 - g8
    have c9 := ii_kR_planMany hσ_45 slot_0
    have c10 := FR_at flσ_45 (c := kR_planMany) (by decide) slot_0
    have c11 := ii_kR_planMany hσ_1 slot_0
    have c12 := FR_at flσ_1 (c := kR_planMany) (by decide) slot_0
    have c13 := ii_kR_planMany hσ slot_0
    try simp (disch := omega) only [w32_of, w64_of, w8_of] at g8
    refine wp_if (fun c14 => ?_) (fun c14 => ?_)
    · have k15 := g8.mp c14
      try simp (disch := omega) only [w32_of, w64_of, w8_of] at k15
      try simp (disch := omega) only [w32_of, w64_of, w8_of, decide_eq_true_eq, decide_eq_false_iff_not, Bool.not_eq_true] at c14
      refine wp_somek ?_
      try dsimp only
      have c18 := ii_kR_thrown hσ_45 0
      refine wp_fails hσ_45 (by (try dsimp only) <;> first | assumption | omega | ((try simp (disch := omega) only [w32_of, w64_of, w8_of]) <;> first | assumption | omega | (split <;> omega) | (refine And.intro ?_ ?_ <;> split <;> omega)) | omega) (by decide) (fun σ_55 hσ_55 flσ_55 e16 e17 => ?_)
      try dsimp only
      have frσ_55 : FR [kR_circleMany, kR_isDone, kR_limbs, kR_onCircle, kR_plan, kR_planMany, kR_pointMany, kR_sign, kR_spotX, kR_spotY, kR_spots, kR_thrown, kR_triangleA, kR_triangleB, kR_triangleC, kR_triangleMany, kR_w, kR_waitFrom, kR_waitTo, kR_waits, kR_xs, kR_ys] σ σ_55 := FR_tr frσ_45 flσ_55 (by decide) (by decide)
      have k19 := e17 (by decide)
      have s55 : SHs σ_55 := SHs_f flσ_55 (by decide) s45
      refine wp_ft ?_
      refine wp_bd (P := fun rr_ => II rr_.2 ∧ FR [kR_circleMany, kR_isDone, kR_limbs, kR_onCircle, kR_plan, kR_planMany, kR_pointMany, kR_sign, kR_spotX, kR_spotY, kR_spots, kR_thrown, kR_triangleA, kR_triangleB, kR_triangleC, kR_triangleMany, kR_w, kR_waitFrom, kR_waitTo, kR_waits, kR_xs, kR_ys] σ rr_.2 ∧ (SHs rr_.2) ∧ (rr_.2 kR_thrown 0 = 0) ∧ (DS rr_.2)) ?_ ?_
      · refine wp_bd (v_gatherSpots (σ := σ_55) (slot_0 := slot_0) hσ_55 (by (try dsimp only) <;> first | assumption | omega | ((try simp (disch := omega) only [w32_of, w64_of, w8_of]) <;> first | assumption | omega | (split <;> omega) | (refine And.intro ?_ ?_ <;> split <;> omega)) | omega)) ?_
        rintro ⟨x_60, σ_59⟩ - y20
        try dsimp only at y20 ⊢
        obtain ⟨hσ_59, flσ_59, gd⟩ := y20
        have frσ_59 : FR [kR_circleMany, kR_isDone, kR_limbs, kR_onCircle, kR_plan, kR_planMany, kR_pointMany, kR_sign, kR_spotX, kR_spotY, kR_spots, kR_thrown, kR_triangleA, kR_triangleB, kR_triangleC, kR_triangleMany, kR_w, kR_waitFrom, kR_waitTo, kR_waits, kR_xs, kR_ys] σ σ_59 := FR_tr frσ_55 flσ_59 (by decide) (by decide)
        try simp (disch := omega) only [w32_of, w64_of, w8_of] at gd
        refine wp_if (fun c21 => ?_) (fun c21 => ?_)
        · try simp (disch := omega) only [w32_of, w64_of, w8_of, decide_eq_true_eq, decide_eq_false_iff_not, Bool.not_eq_true] at c21
          have c22 := ii_kR_thrown hσ_59 0
          have c23 := FR_at flσ_59 (c := kR_thrown) (by decide) 0
          have c24 := ii_kR_thrown hσ_55 0
          exact wp_some ⟨hσ_59, frσ_59, (by (try dsimp only) <;> (exact SHs_f flσ_59 (by decide) s55)), (by (try dsimp only) <;> (exact (FR_at flσ_59 (c := kR_thrown) (by decide) 0).trans (by assumption))), (by (try dsimp only) <;> (exact gd))⟩
        · try simp (disch := omega) only [w32_of, w64_of, w8_of, decide_eq_true_eq, decide_eq_false_iff_not, Bool.not_eq_true] at c21
          have c25 := ii_kR_thrown hσ_59 0
          have c26 := FR_at flσ_59 (c := kR_thrown) (by decide) 0
          have c27 := ii_kR_thrown hσ_55 0
          exact wp_some ⟨hσ_59, frσ_59, (by (try dsimp only) <;> (exact SHs_f flσ_59 (by decide) s55)), (by (try dsimp only) <;> (exact (FR_at flσ_59 (c := kR_thrown) (by decide) 0).trans (by assumption))), (by (try dsimp only) <;> (exact gd))⟩
      rintro ⟨x_64, σ_65⟩ _ y28
      try dsimp only at y28 ⊢
      obtain ⟨hσ_65, frσ_65, s65, t65, d65⟩ := y28
      have c31 := ii_kR_thrown hσ_65 0
      refine wp_fails hσ_65 (by (try dsimp only) <;> first | assumption | omega | ((try simp (disch := omega) only [w32_of, w64_of, w8_of]) <;> first | assumption | omega | (split <;> omega) | (refine And.intro ?_ ?_ <;> split <;> omega)) | omega) (by decide) (fun σ_67 hσ_67 flσ_67 e29 e30 => ?_)
      try dsimp only
      have frσ_67 : FR [kR_circleMany, kR_isDone, kR_limbs, kR_onCircle, kR_plan, kR_planMany, kR_pointMany, kR_sign, kR_spotX, kR_spotY, kR_spots, kR_thrown, kR_triangleA, kR_triangleB, kR_triangleC, kR_triangleMany, kR_w, kR_waitFrom, kR_waitTo, kR_waits, kR_xs, kR_ys] σ σ_67 := FR_tr frσ_65 flσ_67 (by decide) (by decide)
      have s67 : SHs σ_67 := SHs_f flσ_67 (by decide) s65
      have d67 : DS σ_67 := DS_f flσ_67 (by decide) d65
      refine wp_if (fun c32 => ?_) (fun c32 => ?_)
      · have k33 := e29 c32
        try simp (disch := omega) only [w32_of, w64_of, w8_of, decide_eq_true_eq, decide_eq_false_iff_not, Bool.not_eq_true] at c32
        exact wp_some ⟨hσ_67, frσ_67, (by (try dsimp only) <;> (first | exact s120 | exact s74 | exact s67 | exact s55 | exact s45))⟩
      · have k34 := e30 c32
        try simp (disch := omega) only [w32_of, w64_of, w8_of, decide_eq_true_eq, decide_eq_false_iff_not, Bool.not_eq_true] at c32
        refine wp_bd (v_gatherTriangles (σ := σ_67) hσ_67 (by (try dsimp only) <;> first | assumption | omega | ((try simp (disch := omega) only [w32_of, w64_of, w8_of]) <;> first | assumption | omega | (split <;> omega) | (refine And.intro ?_ ?_ <;> split <;> omega)) | omega)) ?_
        rintro σ_71 - ⟨hσ_71, flσ_71⟩
        have frσ_71 : FR [kR_circleMany, kR_isDone, kR_limbs, kR_onCircle, kR_plan, kR_planMany, kR_pointMany, kR_sign, kR_spotX, kR_spotY, kR_spots, kR_thrown, kR_triangleA, kR_triangleB, kR_triangleC, kR_triangleMany, kR_w, kR_waitFrom, kR_waitTo, kR_waits, kR_xs, kR_ys] σ σ_71 := FR_tr frσ_67 flσ_71 (by decide) (by decide)
        have s71 : SHs σ_71 := SHs_f flσ_71 (by decide) s67
        have t71 : σ_71 kR_thrown 0 = 0 := (FR_at flσ_71 (c := kR_thrown) (by decide) 0).trans (by assumption)
        have c35 := ii_kR_triangleMany hσ_71 0
        have c36 := w32_rng (σ_71 kR_triangleMany 0)
        have c39 := ii_kR_thrown hσ_71 0
        have c40 := FR_at flσ_71 (c := kR_thrown) (by decide) 0
        have c41 := ii_kR_thrown hσ_67 0
        refine wp_fails hσ_71 (by (try dsimp only) <;> first | assumption | omega | ((try simp (disch := omega) only [w32_of, w64_of, w8_of]) <;> first | assumption | omega | (split <;> omega) | (refine And.intro ?_ ?_ <;> split <;> omega)) | omega) (by decide) (fun σ_74 hσ_74 flσ_74 e37 e38 => ?_)
        try dsimp only
        have frσ_74 : FR [kR_circleMany, kR_isDone, kR_limbs, kR_onCircle, kR_plan, kR_planMany, kR_pointMany, kR_sign, kR_spotX, kR_spotY, kR_spots, kR_thrown, kR_triangleA, kR_triangleB, kR_triangleC, kR_triangleMany, kR_w, kR_waitFrom, kR_waitTo, kR_waits, kR_xs, kR_ys] σ σ_74 := FR_tr frσ_71 flσ_74 (by decide) (by decide)
        have s74 : SHs σ_74 := SHs_f flσ_74 (by decide) s71
        have z74 : σ_74 kR_triangleMany 0 = σ_71 kR_triangleMany 0 := FR_at flσ_74 (c := kR_triangleMany) (by decide) 0
        refine wp_if (fun c42 => ?_) (fun c42 => ?_)
        · have k43 := e37 c42
          try simp (disch := omega) only [w32_of, w64_of, w8_of, decide_eq_true_eq, decide_eq_false_iff_not, Bool.not_eq_true] at c42
          exact wp_some ⟨hσ_74, frσ_74, (by (try dsimp only) <;> (first | exact s120 | exact s74 | exact s67 | exact s55 | exact s45))⟩
        · have k44 := e38 c42
          try simp (disch := omega) only [w32_of, w64_of, w8_of, decide_eq_true_eq, decide_eq_false_iff_not, Bool.not_eq_true] at c42
          refine wp_bd (v_clear (σ := σ_74) (slot_0 := 32) hσ_74 (by (try dsimp only) <;> first | assumption | omega | ((try simp (disch := omega) only [w32_of, w64_of, w8_of]) <;> first | assumption | omega | (split <;> omega) | (refine And.intro ?_ ?_ <;> split <;> omega)) | omega)) ?_
          rintro σ_78 - ⟨hσ_78, flσ_78, gc1, gc2, gc3⟩
          have frσ_78 : FR [kR_circleMany, kR_isDone, kR_limbs, kR_onCircle, kR_plan, kR_planMany, kR_pointMany, kR_sign, kR_spotX, kR_spotY, kR_spots, kR_thrown, kR_triangleA, kR_triangleB, kR_triangleC, kR_triangleMany, kR_w, kR_waitFrom, kR_waitTo, kR_waits, kR_xs, kR_ys] σ σ_78 := FR_tr frσ_74 flσ_78 (by decide) (by decide)
          have c45 := ii_kR_planMany hσ_78 32
          try simp (disch := omega) only [w32_of, w64_of, w8_of] at gc1
          have c46 := ii_kR_pointMany hσ_78 32
          try simp (disch := omega) only [w32_of, w64_of, w8_of] at gc2
          try simp (disch := omega) only [w32_of, w64_of, w8_of] at gc3
          have n78 : NF σ_74 σ_78 := ⟨fun i _ => ⟨FR_at flσ_78 (by decide) i, FR_at flσ_78 (by decide) i, FR_at flσ_78 (by decide) i⟩, gc3⟩
          have h78 : σ_78 kR_triangleMany 0 = σ_74 kR_triangleMany 0 := FR_at flσ_78 (c := kR_triangleMany) (by decide) 0
          refine wp_bd (v_tell (σ := σ_78) (v_0 := 6) hσ_78 (by (try dsimp only) <;> first | assumption | omega | ((try simp (disch := omega) only [w32_of, w64_of, w8_of]) <;> first | assumption | omega | (split <;> omega) | (refine And.intro ?_ ?_ <;> split <;> omega)) | omega)) ?_
          rintro σ_80 - ⟨hσ_80, flσ_80, ngσ_80, t1, t2, t3⟩
          have frσ_80 : FR [kR_circleMany, kR_isDone, kR_limbs, kR_onCircle, kR_plan, kR_planMany, kR_pointMany, kR_sign, kR_spotX, kR_spotY, kR_spots, kR_thrown, kR_triangleA, kR_triangleB, kR_triangleC, kR_triangleMany, kR_w, kR_waitFrom, kR_waitTo, kR_waits, kR_xs, kR_ys] σ σ_80 := FR_tr frσ_78 flσ_80 (by decide) (by decide)
          have c47 := ii_kR_planMany hσ_80 32
          try simp (disch := omega) only [w32_of, w64_of, w8_of] at t1
          try simp (disch := omega) only [w32_of, w64_of, w8_of] at t2
          try simp (disch := omega) only [w32_of, w64_of, w8_of] at t3
          have a1 := t1
          have a2 := t2
          rw [gc1] at a1 a2
          have h80 : σ_80 kR_triangleMany 0 = σ_74 kR_triangleMany 0 := (FR_at flσ_80 (c := kR_triangleMany) (by decide) 0).trans h78
          have c48 := ii_kR_triangleMany hσ_80 0
          have c49 := FR_at flσ_80 (c := kR_triangleMany) (by decide) 0
          have c50 := ii_kR_triangleMany hσ_78 0
          have c51 := FR_at flσ_78 (c := kR_triangleMany) (by decide) 0
          have c52 := ii_kR_triangleMany hσ_74 0
          have c53 := FR_at flσ_74 (c := kR_triangleMany) (by decide) 0
          refine wp_bd (v_tell (σ := σ_80) (v_0 := (σ_80 kR_triangleMany 0)) hσ_80 (by (try dsimp only) <;> first | assumption | omega | ((try simp (disch := omega) only [w32_of, w64_of, w8_of]) <;> first | assumption | omega | (split <;> omega) | (refine And.intro ?_ ?_ <;> split <;> omega)) | omega)) ?_
          rintro σ_82 - ⟨hσ_82, flσ_82, ngσ_82, t1, t2, t3⟩
          have frσ_82 : FR [kR_circleMany, kR_isDone, kR_limbs, kR_onCircle, kR_plan, kR_planMany, kR_pointMany, kR_sign, kR_spotX, kR_spotY, kR_spots, kR_thrown, kR_triangleA, kR_triangleB, kR_triangleC, kR_triangleMany, kR_w, kR_waitFrom, kR_waitTo, kR_waits, kR_xs, kR_ys] σ σ_82 := FR_tr frσ_80 flσ_82 (by decide) (by decide)
          have c54 := ii_kR_planMany hσ_82 32
          try simp (disch := omega) only [w32_of, w64_of, w8_of] at t1
          try simp (disch := omega) only [w32_of, w64_of, w8_of] at t2
          try simp (disch := omega) only [w32_of, w64_of, w8_of] at t3
          have h82 : σ_82 kR_triangleMany 0 = σ_74 kR_triangleMany 0 := (FR_at flσ_82 (c := kR_triangleMany) (by decide) 0).trans h80
          have n82 : NF σ_74 σ_82 := NF_tr (NF_tr n78 ngσ_80) ngσ_82
          have p82 : σ_82 kR_plan 65537 = σ_74 kR_triangleMany 0 := by rw [show (65537 : Int) = 65536 + σ_80 kR_planMany 32 by omega]; omega
          have tr0 : TRs σ_82 0 := TRs_0 (by omega) (by rw [t3 _ (by omega)]; exact a2) ((FR_at flσ_82 (c := kR_pointMany) (by decide) 32).trans ((FR_at flσ_80 (c := kR_pointMany) (by decide) 32).trans gc2))
          refine wp_bd (P := fun rr_ => (0 ≤ rr_.1 ∧ rr_.1 ≤ 2100) ∧ II rr_.2 ∧ FR [kR_circleMany, kR_isDone, kR_limbs, kR_onCircle, kR_plan, kR_planMany, kR_pointMany, kR_sign, kR_spotX, kR_spotY, kR_spots, kR_thrown, kR_triangleA, kR_triangleB, kR_triangleC, kR_triangleMany, kR_w, kR_waitFrom, kR_waitTo, kR_waits, kR_xs, kR_ys] σ rr_.2 ∧ (NF σ_74 rr_.2) ∧ (TRs rr_.2 (σ_74 kR_triangleMany 0)) ∧ (rr_.2 kR_plan 65537 = σ_74 kR_triangleMany 0)) ?_ ?_
          · have c55 := ii_kR_triangleMany hσ_82 0
            have c56 := FR_at flσ_82 (c := kR_triangleMany) (by decide) 0
            refine wp_whl (fun ss_ => II ss_.2 ∧ FR [kR_circleMany, kR_isDone, kR_limbs, kR_onCircle, kR_plan, kR_planMany, kR_pointMany, kR_sign, kR_spotX, kR_spotY, kR_spots, kR_thrown, kR_triangleA, kR_triangleB, kR_triangleC, kR_triangleMany, kR_w, kR_waitFrom, kR_waitTo, kR_waits, kR_xs, kR_ys] σ ss_.2 ∧ (0 ≤ ss_.1 ∧ ss_.1 ≤ σ_74 kR_triangleMany 0) ∧ (ss_.2 kR_triangleMany 0 = σ_74 kR_triangleMany 0) ∧ (NF σ_74 ss_.2) ∧ (TRs ss_.2 ss_.1) ∧ (ss_.2 kR_plan 65537 = σ_74 kR_triangleMany 0)) (fun ss_ => (3000 - ss_.1).toNat) ⟨hσ_82, frσ_82, (by (try dsimp only) <;> first | assumption | omega | ((try simp (disch := omega) only [w32_of, w64_of, w8_of]) <;> first | assumption | omega | (split <;> omega) | (refine And.intro ?_ ?_ <;> split <;> omega)) | omega), (by (try dsimp only) <;> first | assumption | omega | ((try simp (disch := omega) only [w32_of, w64_of, w8_of]) <;> first | assumption | omega | (split <;> omega) | (refine And.intro ?_ ?_ <;> split <;> omega)) | omega), (by (try dsimp only) <;> (first | exact n82 | exact NF_tr (NF_tr (NF_tr (NF_tr (NF_tr (NF_tr (NF_tr gn ngσ_94) ngσ_96) ngσ_98) ngσ_102) ngσ_106) ngσ_110) ngσ_114)), (by (try dsimp only) <;> (first | exact tr0 | exact tr1)), (by (try dsimp only) <;> (first | exact p82 | exact p114))⟩ ?_
            rintro ⟨k_83, σ_84⟩ y59
            try dsimp only at y59 ⊢
            obtain ⟨hσ_84, frσ_84, g57, g58, gn, gt, gp⟩ := y59
            have c61 := w32_rng k_83
            have c62 := ii_kR_triangleMany hσ_84 0
            have c63 := w32_rng (σ_84 kR_triangleMany 0)
            refine wp_if (fun c60 => ?_) (fun c60 => ?_)
            · try simp (disch := omega) only [w32_of, w64_of, w8_of, decide_eq_true_eq, decide_eq_false_iff_not, Bool.not_eq_true] at c60
              obtain ⟨-, tm1, tm2, -, -, -⟩ := id gt
              have c64 := ii_kR_planMany hσ_84 32
              refine wp_bd (v_tell (σ := σ_84) (v_0 := 3) hσ_84 (by (try dsimp only) <;> first | assumption | omega | ((try simp (disch := omega) only [w32_of, w64_of, w8_of]) <;> first | assumption | omega | (split <;> omega) | (refine And.intro ?_ ?_ <;> split <;> omega)) | omega)) ?_
              rintro σ_94 - ⟨hσ_94, flσ_94, ngσ_94, t1, t2, t3⟩
              have frσ_94 : FR [kR_circleMany, kR_isDone, kR_limbs, kR_onCircle, kR_plan, kR_planMany, kR_pointMany, kR_sign, kR_spotX, kR_spotY, kR_spots, kR_thrown, kR_triangleA, kR_triangleB, kR_triangleC, kR_triangleMany, kR_w, kR_waitFrom, kR_waitTo, kR_waits, kR_xs, kR_ys] σ σ_94 := FR_tr frσ_84 flσ_94 (by decide) (by decide)
              have c65 := ii_kR_planMany hσ_94 32
              try simp (disch := omega) only [w32_of, w64_of, w8_of] at t1
              try simp (disch := omega) only [w32_of, w64_of, w8_of] at t2
              try simp (disch := omega) only [w32_of, w64_of, w8_of] at t3
              have a1 := t1
              have a2 := t2
              have a3 := t3
              refine wp_bd (v_tell (σ := σ_94) (v_0 := 1) hσ_94 (by (try dsimp only) <;> first | assumption | omega | ((try simp (disch := omega) only [w32_of, w64_of, w8_of]) <;> first | assumption | omega | (split <;> omega) | (refine And.intro ?_ ?_ <;> split <;> omega)) | omega)) ?_
              rintro σ_96 - ⟨hσ_96, flσ_96, ngσ_96, t1, t2, t3⟩
              have frσ_96 : FR [kR_circleMany, kR_isDone, kR_limbs, kR_onCircle, kR_plan, kR_planMany, kR_pointMany, kR_sign, kR_spotX, kR_spotY, kR_spots, kR_thrown, kR_triangleA, kR_triangleB, kR_triangleC, kR_triangleMany, kR_w, kR_waitFrom, kR_waitTo, kR_waits, kR_xs, kR_ys] σ σ_96 := FR_tr frσ_94 flσ_96 (by decide) (by decide)
              have c66 := ii_kR_planMany hσ_96 32
              try simp (disch := omega) only [w32_of, w64_of, w8_of] at t1
              try simp (disch := omega) only [w32_of, w64_of, w8_of] at t2
              try simp (disch := omega) only [w32_of, w64_of, w8_of] at t3
              have b1 := t1
              have b2 := t2
              have b3 := t3
              refine wp_bd (v_tell (σ := σ_96) (v_0 := 4) hσ_96 (by (try dsimp only) <;> first | assumption | omega | ((try simp (disch := omega) only [w32_of, w64_of, w8_of]) <;> first | assumption | omega | (split <;> omega) | (refine And.intro ?_ ?_ <;> split <;> omega)) | omega)) ?_
              rintro σ_98 - ⟨hσ_98, flσ_98, ngσ_98, t1, t2, t3⟩
              have frσ_98 : FR [kR_circleMany, kR_isDone, kR_limbs, kR_onCircle, kR_plan, kR_planMany, kR_pointMany, kR_sign, kR_spotX, kR_spotY, kR_spots, kR_thrown, kR_triangleA, kR_triangleB, kR_triangleC, kR_triangleMany, kR_w, kR_waitFrom, kR_waitTo, kR_waits, kR_xs, kR_ys] σ σ_98 := FR_tr frσ_96 flσ_98 (by decide) (by decide)
              have c67 := ii_kR_planMany hσ_98 32
              try simp (disch := omega) only [w32_of, w64_of, w8_of] at t1
              try simp (disch := omega) only [w32_of, w64_of, w8_of] at t2
              try simp (disch := omega) only [w32_of, w64_of, w8_of] at t3
              have c1 := t1
              have c2 := t2
              have c3 := t3
              have qq98 : σ_98 kR_pointMany 32 = σ_84 kR_pointMany 32 := (FR_at flσ_98 (c := kR_pointMany) (by decide) 32).trans ((FR_at flσ_96 (c := kR_pointMany) (by decide) 32).trans (FR_at flσ_94 (c := kR_pointMany) (by decide) 32))
              refine wp_rdI (by (try dsimp only) <;> first | assumption | omega | ((try simp (disch := omega) only [w32_of, w64_of, w8_of]) <;> first | assumption | omega | (split <;> omega) | (refine And.intro ?_ ?_ <;> split <;> omega)) | omega) (by (try dsimp only) <;> first | assumption | omega | ((try simp (disch := omega) only [w32_of, w64_of, w8_of]) <;> first | assumption | omega | (split <;> omega) | (refine And.intro ?_ ?_ <;> split <;> omega)) | omega) (fun x_99 e_x_99 => ?_)
              have b_x_99 : 0 ≤ x_99 ∧ x_99 ≤ 1023 := by rw [e_x_99]; exact ii_kR_triangleA hσ_98 _
              try simp (disch := omega) only [w32_of, w64_of, w8_of] at e_x_99
              have c68 := ii_kR_triangleA hσ_98 k_83
              have c69 := FR_at flσ_98 (c := kR_triangleA) (by decide) k_83
              have c70 := ii_kR_triangleA hσ_96 k_83
              have c71 := FR_at flσ_96 (c := kR_triangleA) (by decide) k_83
              have c72 := ii_kR_triangleA hσ_94 k_83
              have c73 := FR_at flσ_94 (c := kR_triangleA) (by decide) k_83
              have c74 := ii_kR_triangleA hσ_84 k_83
              have c75 := ii_kR_pointMany hσ_98 32
              have c76 := FR_at flσ_98 (c := kR_pointMany) (by decide) 32
              have c77 := ii_kR_pointMany hσ_96 32
              have c78 := FR_at flσ_96 (c := kR_pointMany) (by decide) 32
              have c79 := ii_kR_pointMany hσ_94 32
              have c80 := FR_at flσ_94 (c := kR_pointMany) (by decide) 32
              have c81 := ii_kR_pointMany hσ_84 32
              refine wp_bd (v_dotSpot (σ := σ_98) (k_0 := x_99) hσ_98 (by (try dsimp only) <;> first | assumption | omega | ((try simp (disch := omega) only [w32_of, w64_of, w8_of]) <;> first | assumption | omega | (split <;> omega) | (refine And.intro ?_ ?_ <;> split <;> omega)) | omega) (by (try dsimp only) <;> first | assumption | omega | ((try simp (disch := omega) only [w32_of, w64_of, w8_of]) <;> first | assumption | omega | (split <;> omega) | (refine And.intro ?_ ?_ <;> split <;> omega)) | omega)) ?_
              rintro σ_102 - ⟨hσ_102, flσ_102, ngσ_102, d1⟩
              have frσ_102 : FR [kR_circleMany, kR_isDone, kR_limbs, kR_onCircle, kR_plan, kR_planMany, kR_pointMany, kR_sign, kR_spotX, kR_spotY, kR_spots, kR_thrown, kR_triangleA, kR_triangleB, kR_triangleC, kR_triangleMany, kR_w, kR_waitFrom, kR_waitTo, kR_waits, kR_xs, kR_ys] σ σ_102 := FR_tr frσ_98 flσ_102 (by decide) (by decide)
              have c82 := ii_kR_pointMany hσ_102 32
              try simp (disch := omega) only [w32_of, w64_of, w8_of] at d1
              have d102 := d1
              refine wp_rdI (by (try dsimp only) <;> first | assumption | omega | ((try simp (disch := omega) only [w32_of, w64_of, w8_of]) <;> first | assumption | omega | (split <;> omega) | (refine And.intro ?_ ?_ <;> split <;> omega)) | omega) (by (try dsimp only) <;> first | assumption | omega | ((try simp (disch := omega) only [w32_of, w64_of, w8_of]) <;> first | assumption | omega | (split <;> omega) | (refine And.intro ?_ ?_ <;> split <;> omega)) | omega) (fun x_103 e_x_103 => ?_)
              have b_x_103 : 0 ≤ x_103 ∧ x_103 ≤ 1023 := by rw [e_x_103]; exact ii_kR_triangleB hσ_102 _
              try simp (disch := omega) only [w32_of, w64_of, w8_of] at e_x_103
              have c83 := ii_kR_triangleB hσ_102 k_83
              have c84 := FR_at flσ_102 (c := kR_triangleB) (by decide) k_83
              have c85 := ii_kR_triangleB hσ_98 k_83
              have c86 := FR_at flσ_98 (c := kR_triangleB) (by decide) k_83
              have c87 := ii_kR_triangleB hσ_96 k_83
              have c88 := FR_at flσ_96 (c := kR_triangleB) (by decide) k_83
              have c89 := ii_kR_triangleB hσ_94 k_83
              have c90 := FR_at flσ_94 (c := kR_triangleB) (by decide) k_83
              have c91 := ii_kR_triangleB hσ_84 k_83
              refine wp_bd (v_dotSpot (σ := σ_102) (k_0 := x_103) hσ_102 (by (try dsimp only) <;> first | assumption | omega | ((try simp (disch := omega) only [w32_of, w64_of, w8_of]) <;> first | assumption | omega | (split <;> omega) | (refine And.intro ?_ ?_ <;> split <;> omega)) | omega) (by (try dsimp only) <;> first | assumption | omega | ((try simp (disch := omega) only [w32_of, w64_of, w8_of]) <;> first | assumption | omega | (split <;> omega) | (refine And.intro ?_ ?_ <;> split <;> omega)) | omega)) ?_
              rintro σ_106 - ⟨hσ_106, flσ_106, ngσ_106, d1⟩
              have frσ_106 : FR [kR_circleMany, kR_isDone, kR_limbs, kR_onCircle, kR_plan, kR_planMany, kR_pointMany, kR_sign, kR_spotX, kR_spotY, kR_spots, kR_thrown, kR_triangleA, kR_triangleB, kR_triangleC, kR_triangleMany, kR_w, kR_waitFrom, kR_waitTo, kR_waits, kR_xs, kR_ys] σ σ_106 := FR_tr frσ_102 flσ_106 (by decide) (by decide)
              have c92 := ii_kR_pointMany hσ_106 32
              try simp (disch := omega) only [w32_of, w64_of, w8_of] at d1
              have d106 := d1
              refine wp_rdI (by (try dsimp only) <;> first | assumption | omega | ((try simp (disch := omega) only [w32_of, w64_of, w8_of]) <;> first | assumption | omega | (split <;> omega) | (refine And.intro ?_ ?_ <;> split <;> omega)) | omega) (by (try dsimp only) <;> first | assumption | omega | ((try simp (disch := omega) only [w32_of, w64_of, w8_of]) <;> first | assumption | omega | (split <;> omega) | (refine And.intro ?_ ?_ <;> split <;> omega)) | omega) (fun x_107 e_x_107 => ?_)
              have b_x_107 : 0 ≤ x_107 ∧ x_107 ≤ 1023 := by rw [e_x_107]; exact ii_kR_triangleC hσ_106 _
              try simp (disch := omega) only [w32_of, w64_of, w8_of] at e_x_107
              have c93 := ii_kR_triangleC hσ_106 k_83
              have c94 := FR_at flσ_106 (c := kR_triangleC) (by decide) k_83
              have c95 := ii_kR_triangleC hσ_102 k_83
              have c96 := FR_at flσ_102 (c := kR_triangleC) (by decide) k_83
              have c97 := ii_kR_triangleC hσ_98 k_83
              have c98 := FR_at flσ_98 (c := kR_triangleC) (by decide) k_83
              have c99 := ii_kR_triangleC hσ_96 k_83
              have c100 := FR_at flσ_96 (c := kR_triangleC) (by decide) k_83
              have c101 := ii_kR_triangleC hσ_94 k_83
              have c102 := FR_at flσ_94 (c := kR_triangleC) (by decide) k_83
              have c103 := ii_kR_triangleC hσ_84 k_83
              refine wp_bd (v_dotSpot (σ := σ_106) (k_0 := x_107) hσ_106 (by (try dsimp only) <;> first | assumption | omega | ((try simp (disch := omega) only [w32_of, w64_of, w8_of]) <;> first | assumption | omega | (split <;> omega) | (refine And.intro ?_ ?_ <;> split <;> omega)) | omega) (by (try dsimp only) <;> first | assumption | omega | ((try simp (disch := omega) only [w32_of, w64_of, w8_of]) <;> first | assumption | omega | (split <;> omega) | (refine And.intro ?_ ?_ <;> split <;> omega)) | omega)) ?_
              rintro σ_110 - ⟨hσ_110, flσ_110, ngσ_110, d1⟩
              have frσ_110 : FR [kR_circleMany, kR_isDone, kR_limbs, kR_onCircle, kR_plan, kR_planMany, kR_pointMany, kR_sign, kR_spotX, kR_spotY, kR_spots, kR_thrown, kR_triangleA, kR_triangleB, kR_triangleC, kR_triangleMany, kR_w, kR_waitFrom, kR_waitTo, kR_waits, kR_xs, kR_ys] σ σ_110 := FR_tr frσ_106 flσ_110 (by decide) (by decide)
              have c104 := ii_kR_pointMany hσ_110 32
              try simp (disch := omega) only [w32_of, w64_of, w8_of] at d1
              have d110 := d1
              refine wp_rdI (by (try dsimp only) <;> first | assumption | omega | ((try simp (disch := omega) only [w32_of, w64_of, w8_of]) <;> first | assumption | omega | (split <;> omega) | (refine And.intro ?_ ?_ <;> split <;> omega)) | omega) (by (try dsimp only) <;> first | assumption | omega | ((try simp (disch := omega) only [w32_of, w64_of, w8_of]) <;> first | assumption | omega | (split <;> omega) | (refine And.intro ?_ ?_ <;> split <;> omega)) | omega) (fun x_111 e_x_111 => ?_)
              have b_x_111 : 0 ≤ x_111 ∧ x_111 ≤ 1023 := by rw [e_x_111]; exact ii_kR_triangleA hσ_110 _
              try simp (disch := omega) only [w32_of, w64_of, w8_of] at e_x_111
              have c105 := ii_kR_triangleA hσ_110 k_83
              have c106 := FR_at flσ_110 (c := kR_triangleA) (by decide) k_83
              have c107 := ii_kR_triangleA hσ_106 k_83
              have c108 := FR_at flσ_106 (c := kR_triangleA) (by decide) k_83
              have c109 := ii_kR_triangleA hσ_102 k_83
              have c110 := FR_at flσ_102 (c := kR_triangleA) (by decide) k_83
              refine wp_bd (v_dotSpot (σ := σ_110) (k_0 := x_111) hσ_110 (by (try dsimp only) <;> first | assumption | omega | ((try simp (disch := omega) only [w32_of, w64_of, w8_of]) <;> first | assumption | omega | (split <;> omega) | (refine And.intro ?_ ?_ <;> split <;> omega)) | omega) (by (try dsimp only) <;> first | assumption | omega | ((try simp (disch := omega) only [w32_of, w64_of, w8_of]) <;> first | assumption | omega | (split <;> omega) | (refine And.intro ?_ ?_ <;> split <;> omega)) | omega)) ?_
              rintro σ_114 - ⟨hσ_114, flσ_114, ngσ_114, d1⟩
              have frσ_114 : FR [kR_circleMany, kR_isDone, kR_limbs, kR_onCircle, kR_plan, kR_planMany, kR_pointMany, kR_sign, kR_spotX, kR_spotY, kR_spots, kR_thrown, kR_triangleA, kR_triangleB, kR_triangleC, kR_triangleMany, kR_w, kR_waitFrom, kR_waitTo, kR_waits, kR_xs, kR_ys] σ σ_114 := FR_tr frσ_110 flσ_114 (by decide) (by decide)
              have c111 := ii_kR_pointMany hσ_114 32
              try simp (disch := omega) only [w32_of, w64_of, w8_of] at d1
              have pl : ∀ i, σ_114 kR_plan i = σ_98 kR_plan i := fun i => by rw [FR_at flσ_114 (c := kR_plan) (by decide), FR_at flσ_110 (c := kR_plan) (by decide), FR_at flσ_106 (c := kR_plan) (by decide), FR_at flσ_102 (c := kR_plan) (by decide)]
              have pm : σ_114 kR_planMany 32 = σ_98 kR_planMany 32 := by rw [FR_at flσ_114 (c := kR_planMany) (by decide), FR_at flσ_110 (c := kR_planMany) (by decide), FR_at flσ_106 (c := kR_planMany) (by decide), FR_at flσ_102 (c := kR_planMany) (by decide)]
              have tr1 : TRs σ_114 (k_83 + 1) := TRs_go gt (by omega) (by omega) (by rw [pl, c3 _ (by omega), b3 _ (by omega)]; exact a2) (by rw [pl, c3 _ (by omega), show 65536 + σ_84 kR_planMany 32 + 1 = 65536 + σ_94 kR_planMany 32 by omega]; exact b2) (by rw [pl, show 65536 + σ_84 kR_planMany 32 + 2 = 65536 + σ_96 kR_planMany 32 by omega]; exact c2) (fun i hi => by rw [pl, c3 i (by omega), b3 i (by omega), a3 i (by omega)])
              have p114 : σ_114 kR_plan 65537 = σ_74 kR_triangleMany 0 := by rw [pl, c3 _ (by omega), b3 _ (by omega), a3 _ (by omega)]; exact gp
              have c112 := ii_kR_triangleMany hσ_114 0
              have c113 := FR_at flσ_114 (c := kR_triangleMany) (by decide) 0
              have c114 := ii_kR_triangleMany hσ_110 0
              have c115 := FR_at flσ_110 (c := kR_triangleMany) (by decide) 0
              have c116 := ii_kR_triangleMany hσ_106 0
              have c117 := FR_at flσ_106 (c := kR_triangleMany) (by decide) 0
              have c118 := ii_kR_triangleMany hσ_102 0
              have c119 := FR_at flσ_102 (c := kR_triangleMany) (by decide) 0
              have c120 := ii_kR_triangleMany hσ_98 0
              have c121 := FR_at flσ_98 (c := kR_triangleMany) (by decide) 0
              have c122 := ii_kR_triangleMany hσ_96 0
              have c123 := FR_at flσ_96 (c := kR_triangleMany) (by decide) 0
              have c124 := ii_kR_triangleMany hσ_94 0
              have c125 := FR_at flσ_94 (c := kR_triangleMany) (by decide) 0
              have c126 := FR_at flσ_114 (c := kR_plan) (by decide) 65537
              have c127 := FR_at flσ_110 (c := kR_plan) (by decide) 65537
              have c128 := FR_at flσ_106 (c := kR_plan) (by decide) 65537
              have c129 := FR_at flσ_102 (c := kR_plan) (by decide) 65537
              exact wp_some (x_inl ⟨⟨hσ_114, frσ_114, (by (try dsimp only) <;> first | assumption | omega | ((try simp (disch := omega) only [w32_of, w64_of, w8_of]) <;> first | assumption | omega | (split <;> omega) | (refine And.intro ?_ ?_ <;> split <;> omega)) | omega), (by (try dsimp only) <;> first | assumption | omega | ((try simp (disch := omega) only [w32_of, w64_of, w8_of]) <;> first | assumption | omega | (split <;> omega) | (refine And.intro ?_ ?_ <;> split <;> omega)) | omega), (by (try dsimp only) <;> (first | exact n82 | exact NF_tr (NF_tr (NF_tr (NF_tr (NF_tr (NF_tr (NF_tr gn ngσ_94) ngσ_96) ngσ_98) ngσ_102) ngσ_106) ngσ_110) ngσ_114)), (by (try dsimp only) <;> (first | exact tr0 | exact tr1)), (by (try dsimp only) <;> (first | exact p82 | exact p114))⟩, (by (try dsimp only) <;> first | assumption | omega | ((try simp (disch := omega) only [w32_of, w64_of, w8_of]) <;> first | assumption | omega | (split <;> omega) | (refine And.intro ?_ ?_ <;> split <;> omega)) | omega)⟩)
            · try simp (disch := omega) only [w32_of, w64_of, w8_of, decide_eq_true_eq, decide_eq_false_iff_not, Bool.not_eq_true] at c60
              exact wp_some (x_inr ⟨(by (try dsimp only) <;> first | assumption | omega | ((try simp (disch := omega) only [w32_of, w64_of, w8_of]) <;> first | assumption | omega | (split <;> omega) | (refine And.intro ?_ ?_ <;> split <;> omega)) | omega), hσ_84, frσ_84, (by (try dsimp only) <;> (exact gn)), (by (try dsimp only) <;> (rw [show σ_74 kR_triangleMany 0 = k_83 by omega]; exact gt)), (by (try dsimp only) <;> (exact gp))⟩)
          rintro ⟨k_117, σ_118⟩ _ y131
          try dsimp only at y131 ⊢
          obtain ⟨g130, hσ_118, frσ_118, nf118, gt, gp⟩ := y131
          have s118 : SHs σ_118 := NF_SHs hσ_74 nf118 s74
          have sn : SHn σ_118 := TRs_SH (by omega) gt gp
          refine wp_bd (v_move (σ := σ_118) (from_0 := 32) (to_0 := to_0) hσ_118 (by (try dsimp only) <;> first | assumption | omega | ((try simp (disch := omega) only [w32_of, w64_of, w8_of]) <;> first | assumption | omega | (split <;> omega) | (refine And.intro ?_ ?_ <;> split <;> omega)) | omega) (by (try dsimp only) <;> first | assumption | omega | ((try simp (disch := omega) only [w32_of, w64_of, w8_of]) <;> first | assumption | omega | (split <;> omega) | (refine And.intro ?_ ?_ <;> split <;> omega)) | omega) (by (try dsimp only) <;> first | assumption | omega | ((try simp (disch := omega) only [w32_of, w64_of, w8_of]) <;> first | assumption | omega | (split <;> omega) | (refine And.intro ?_ ?_ <;> split <;> omega)) | omega)) ?_
          rintro σ_120 - ⟨hσ_120, flσ_120, gm⟩
          have frσ_120 : FR [kR_circleMany, kR_isDone, kR_limbs, kR_onCircle, kR_plan, kR_planMany, kR_pointMany, kR_sign, kR_spotX, kR_spotY, kR_spots, kR_thrown, kR_triangleA, kR_triangleB, kR_triangleC, kR_triangleMany, kR_w, kR_waitFrom, kR_waitTo, kR_waits, kR_xs, kR_ys] σ σ_120 := FR_tr frσ_118 flσ_120 (by decide) (by decide)
          try simp (disch := omega) only [w32_of, w64_of, w8_of] at gm
          have s120 : SHs σ_120 := MV_SHs hσ_118 gm (SHn_SH sn) s118
          exact wp_some ⟨hσ_120, frσ_120, (by (try dsimp only) <;> (first | exact s120 | exact s74 | exact s67 | exact s55 | exact s45))⟩
    · have k132 := fun q => c14 (g8.mpr q)
      try simp (disch := omega) only [w32_of, w64_of, w8_of] at k132
      try simp (disch := omega) only [w32_of, w64_of, w8_of, decide_eq_true_eq, decide_eq_false_iff_not, Bool.not_eq_true] at c14
      refine wp_somek ?_
      try dsimp only
      have c135 := ii_kR_thrown hσ_45 0
      refine wp_fails hσ_45 (by (try dsimp only) <;> first | assumption | omega | ((try simp (disch := omega) only [w32_of, w64_of, w8_of]) <;> first | assumption | omega | (split <;> omega) | (refine And.intro ?_ ?_ <;> split <;> omega)) | omega) (by decide) (fun σ_55 hσ_55 flσ_55 e133 e134 => ?_)
      try dsimp only
      have frσ_55 : FR [kR_circleMany, kR_isDone, kR_limbs, kR_onCircle, kR_plan, kR_planMany, kR_pointMany, kR_sign, kR_spotX, kR_spotY, kR_spots, kR_thrown, kR_triangleA, kR_triangleB, kR_triangleC, kR_triangleMany, kR_w, kR_waitFrom, kR_waitTo, kR_waits, kR_xs, kR_ys] σ σ_55 := FR_tr frσ_45 flσ_55 (by decide) (by decide)
      have k136 := e133 rfl
      have s55 : SHs σ_55 := SHs_f flσ_55 (by decide) s45
      refine wp_tt ?_
      exact wp_some ⟨hσ_55, frσ_55, (by (try dsimp only) <;> (first | exact s120 | exact s74 | exact s67 | exact s55 | exact s45))⟩
