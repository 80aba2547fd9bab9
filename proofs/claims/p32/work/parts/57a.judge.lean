theorem v_has {σ : SG} {slot_0 : Int} (hσ : II σ) (qslot_0 : 0 ≤ slot_0 ∧ slot_0 ≤ 31) : wp_ (fR_has σ slot_0) (fun zz_ => ((zz_ = true) ↔ (0 < σ kR_planMany slot_0))) := by
  unfold fR_has
  refine wp_bdk ?_
  have c1 := w32_rng slot_0
  refine wp_rdI (by (try dsimp only) <;> first | assumption | omega | ((try simp (disch := omega) only [w32_of, w64_of, w8_of]) <;> first | assumption | omega | (split <;> omega) | (refine And.intro ?_ ?_ <;> split <;> omega)) | omega) (by (try dsimp only) <;> first | assumption | omega | ((try simp (disch := omega) only [w32_of, w64_of, w8_of]) <;> first | assumption | omega | (split <;> omega) | (refine And.intro ?_ ?_ <;> split <;> omega)) | omega) (fun x_1 e_x_1 => ?_)
  have b_x_1 : 0 ≤ x_1 ∧ x_1 ≤ 2048 := by rw [e_x_1]; exact ii_kR_planMany hσ _
  try simp (disch := omega) only [w32_of, w64_of, w8_of] at e_x_1
  have c3 := w32_rng x_1
  refine wp_if (fun c2 => ?_) (fun c2 => ?_)
  · try simp (disch := omega) only [w32_of, w64_of, w8_of, decide_eq_true_eq, decide_eq_false_iff_not, Bool.not_eq_true] at c2
    refine wp_somek ?_
    try dsimp only
    have c4 := ii_kR_planMany hσ slot_0
    exact wp_some (by first | assumption | exact ⟨fun _ => (by (try dsimp only) <;> first | assumption | omega | ((try simp (disch := omega) only [w32_of, w64_of, w8_of]) <;> first | assumption | omega | (split <;> omega) | (refine And.intro ?_ ?_ <;> split <;> omega)) | omega), fun _ => rfl⟩ | exact ⟨fun q => (by cases q), fun q => absurd q (by (try dsimp only) <;> first | assumption | omega | ((try simp (disch := omega) only [w32_of, w64_of, w8_of]) <;> first | assumption | omega | (split <;> omega) | (refine And.intro ?_ ?_ <;> split <;> omega)) | omega)⟩ | exact fun _ => (by (try dsimp only) <;> first | assumption | omega | ((try simp (disch := omega) only [w32_of, w64_of, w8_of]) <;> first | assumption | omega | (split <;> omega) | (refine And.intro ?_ ?_ <;> split <;> omega)) | omega) | exact fun q => (by cases q) | exact fun q => absurd (Eq.trans q.symm (by assumption : _ = false)) (by decide))
  · try simp (disch := omega) only [w32_of, w64_of, w8_of, decide_eq_true_eq, decide_eq_false_iff_not, Bool.not_eq_true] at c2
    refine wp_somek ?_
    try dsimp only
    have c5 := ii_kR_planMany hσ slot_0
    exact wp_some (by first | assumption | exact ⟨fun _ => (by (try dsimp only) <;> first | assumption | omega | ((try simp (disch := omega) only [w32_of, w64_of, w8_of]) <;> first | assumption | omega | (split <;> omega) | (refine And.intro ?_ ?_ <;> split <;> omega)) | omega), fun _ => rfl⟩ | exact ⟨fun q => (by cases q), fun q => absurd q (by (try dsimp only) <;> first | assumption | omega | ((try simp (disch := omega) only [w32_of, w64_of, w8_of]) <;> first | assumption | omega | (split <;> omega) | (refine And.intro ?_ ?_ <;> split <;> omega)) | omega)⟩ | exact fun _ => (by (try dsimp only) <;> first | assumption | omega | ((try simp (disch := omega) only [w32_of, w64_of, w8_of]) <;> first | assumption | omega | (split <;> omega) | (refine And.intro ?_ ?_ <;> split <;> omega)) | omega) | exact fun q => (by cases q) | exact fun q => absurd (Eq.trans q.symm (by assumption : _ = false)) (by decide))
theorem s_R_around {σ : SG} {from_0 : Int} {n_0 : Int} (hσ : II σ) (w0 : 0 ≤ from_0) (w1 : 0 ≤ n_0) (w2 : from_0 + n_0 ≤ 67584) : wp_ (fR_around σ from_0 n_0) (fun zz_ => True) := by
  unfold fR_around
  refine wp_bd (P := fun rr_ => (0 ≤ rr_.2 ∧ rr_.2 ≤ 2147483647)) ?_ ?_
  · refine wp_whl (fun ss_ => (0 ≤ ss_.2 ∧ ss_.2 ≤ 2147483647) ∧ (ss_.2 ≤ n_0)) (fun ss_ => (2147483648 - ss_.2).toNat) ⟨(by (try dsimp only) <;> first | assumption | omega | ((try simp (disch := omega) only [w32_of, w64_of, w8_of]) <;> first | assumption | omega | (split <;> omega) | (refine And.intro ?_ ?_ <;> split <;> omega)) | omega), (by (try dsimp only) <;> first | assumption | omega | ((try simp (disch := omega) only [w32_of, w64_of, w8_of]) <;> first | assumption | omega | (split <;> omega) | (refine And.intro ?_ ?_ <;> split <;> omega)) | omega)⟩ ?_
    rintro ⟨sum_1, k_2⟩ y3
    try dsimp only at y3 ⊢
    obtain ⟨g1, g2⟩ := y3
    have c5 := w32_rng k_2
    have c6 := w32_rng n_0
    refine wp_if (fun c4 => ?_) (fun c4 => ?_)
    · try simp (disch := omega) only [w32_of, w64_of, w8_of, decide_eq_true_eq, decide_eq_false_iff_not, Bool.not_eq_true] at c4
      refine wp_ck (by (try dsimp only) <;> first | assumption | omega | ((try simp (disch := omega) only [w32_of, w64_of, w8_of]) <;> first | assumption | omega | (split <;> omega) | (refine And.intro ?_ ?_ <;> split <;> omega)) | omega) ?_
      have c7 := w32_rng (from_0 + k_2)
      refine wp_rdI (by (try dsimp only) <;> first | assumption | omega | ((try simp (disch := omega) only [w32_of, w64_of, w8_of]) <;> first | assumption | omega | (split <;> omega) | (refine And.intro ?_ ?_ <;> split <;> omega)) | omega) (by (try dsimp only) <;> first | assumption | omega | ((try simp (disch := omega) only [w32_of, w64_of, w8_of]) <;> first | assumption | omega | (split <;> omega) | (refine And.intro ?_ ?_ <;> split <;> omega)) | omega) (fun x_12 e_x_12 => ?_)
      have b_x_12 : (-1000000000) ≤ x_12 ∧ x_12 ≤ 1000000000 := by rw [e_x_12]; exact ii_kR_xs hσ _
      try simp (disch := omega) only [w32_of, w64_of, w8_of] at e_x_12
      have c8 := q_irm_bd (k_2 + 1) n_0 (by (try dsimp only) <;> first | assumption | omega | ((try simp (disch := omega) only [w32_of, w64_of, w8_of]) <;> first | assumption | omega | (split <;> omega) | (refine And.intro ?_ ?_ <;> split <;> omega)) | omega)
      try simp (disch := omega) only [w32_of, w64_of, w8_of] at c8
      have c9 := w32_rng (from_0 + (q_irm (k_2 + 1) n_0))
      refine wp_rdI (by (try dsimp only) <;> first | assumption | omega | ((try simp (disch := omega) only [w32_of, w64_of, w8_of]) <;> first | assumption | omega | (split <;> omega) | (refine And.intro ?_ ?_ <;> split <;> omega)) | omega) (by (try dsimp only) <;> first | assumption | omega | ((try simp (disch := omega) only [w32_of, w64_of, w8_of]) <;> first | assumption | omega | (split <;> omega) | (refine And.intro ?_ ?_ <;> split <;> omega)) | omega) (fun x_14 e_x_14 => ?_)
      have b_x_14 : (-1000000000) ≤ x_14 ∧ x_14 ≤ 1000000000 := by rw [e_x_14]; exact ii_kR_ys hσ _
      try simp (disch := omega) only [w32_of, w64_of, w8_of] at e_x_14
      refine wp_rdI (by (try dsimp only) <;> first | assumption | omega | ((try simp (disch := omega) only [w32_of, w64_of, w8_of]) <;> first | assumption | omega | (split <;> omega) | (refine And.intro ?_ ?_ <;> split <;> omega)) | omega) (by (try dsimp only) <;> first | assumption | omega | ((try simp (disch := omega) only [w32_of, w64_of, w8_of]) <;> first | assumption | omega | (split <;> omega) | (refine And.intro ?_ ?_ <;> split <;> omega)) | omega) (fun x_16 e_x_16 => ?_)
      have b_x_16 : (-1000000000) ≤ x_16 ∧ x_16 ≤ 1000000000 := by rw [e_x_16]; exact ii_kR_xs hσ _
      try simp (disch := omega) only [w32_of, w64_of, w8_of] at e_x_16
      refine wp_rdI (by (try dsimp only) <;> first | assumption | omega | ((try simp (disch := omega) only [w32_of, w64_of, w8_of]) <;> first | assumption | omega | (split <;> omega) | (refine And.intro ?_ ?_ <;> split <;> omega)) | omega) (by (try dsimp only) <;> first | assumption | omega | ((try simp (disch := omega) only [w32_of, w64_of, w8_of]) <;> first | assumption | omega | (split <;> omega) | (refine And.intro ?_ ?_ <;> split <;> omega)) | omega) (fun x_18 e_x_18 => ?_)
      have b_x_18 : (-1000000000) ≤ x_18 ∧ x_18 ≤ 1000000000 := by rw [e_x_18]; exact ii_kR_ys hσ _
      try simp (disch := omega) only [w32_of, w64_of, w8_of] at e_x_18
      have c10 := w32_rng x_12
      have c11 := w32_rng x_14
      have c12 := w32_rng x_16
      have c13 := w32_rng x_18
      refine wp_lt (fun x_20 e_x_20 => ?_)
      try simp (disch := omega) only [w32_of, w64_of, w8_of] at e_x_20
      exact wp_some (x_inl ⟨⟨(by (try dsimp only) <;> first | assumption | omega | ((try simp (disch := omega) only [w32_of, w64_of, w8_of]) <;> first | assumption | omega | (split <;> omega) | (refine And.intro ?_ ?_ <;> split <;> omega)) | omega), (by (try dsimp only) <;> first | assumption | omega | ((try simp (disch := omega) only [w32_of, w64_of, w8_of]) <;> first | assumption | omega | (split <;> omega) | (refine And.intro ?_ ?_ <;> split <;> omega)) | omega)⟩, (by (try dsimp only) <;> first | assumption | omega | ((try simp (disch := omega) only [w32_of, w64_of, w8_of]) <;> first | assumption | omega | (split <;> omega) | (refine And.intro ?_ ?_ <;> split <;> omega)) | omega)⟩)
    · try simp (disch := omega) only [w32_of, w64_of, w8_of, decide_eq_true_eq, decide_eq_false_iff_not, Bool.not_eq_true] at c4
      exact wp_some (x_inr (by (try dsimp only) <;> first | assumption | omega | ((try simp (disch := omega) only [w32_of, w64_of, w8_of]) <;> first | assumption | omega | (split <;> omega) | (refine And.intro ?_ ?_ <;> split <;> omega)) | omega))
  rintro ⟨sum_23, k_24⟩ _ y15
  try dsimp only at y15 ⊢
  have g14 := y15
  exact wp_some trivial
theorem s_R_area {σ : SG} {slot_0 : Int} (hσ : II σ) (qslot_0 : (-2147483648) ≤ slot_0 ∧ slot_0 ≤ 2147483647) (w0 : SHs σ) : wp_ (fR_area σ slot_0) (fun zz_ => II zz_.2 ∧ FR [kR_thrown] σ zz_.2) := by
  unfold fR_area
  refine wp_wfI hσ b_kR_thrown (by (try dsimp only) <;> first | assumption | omega | ((try simp (disch := omega) only [w32_of, w64_of, w8_of]) <;> first | assumption | omega | (split <;> omega) | (refine And.intro ?_ ?_ <;> split <;> omega)) | omega) (fun σ_1 hσ_1 eσ_1 => ?_)
  try simp (disch := omega) only [w32_of, w64_of, w8_of] at eσ_1
  have flσ_1 := FR_sg eσ_1
  have frσ_1 : FR [kR_thrown] σ σ_1 := FR_le flσ_1 (by decide)
  have c3 := ii_kR_thrown hσ_1 0
  have c4 := sg_val eσ_1
  refine wp_fails hσ_1 (by (try dsimp only) <;> first | assumption | omega | ((try simp (disch := omega) only [w32_of, w64_of, w8_of]) <;> first | assumption | omega | (split <;> omega) | (refine And.intro ?_ ?_ <;> split <;> omega)) | omega) (by decide) (fun σ_27 hσ_27 flσ_27 e1 e2 => ?_)
  try dsimp only
  have frσ_27 : FR [kR_thrown] σ σ_27 := FR_tr frσ_1 flσ_27 (by decide) (by decide)
  refine wp_if (fun c5 => ?_) (fun c5 => ?_)
  · have k6 := e1 c5
    try simp (disch := omega) only [w32_of, w64_of, w8_of, decide_eq_true_eq, decide_eq_false_iff_not, Bool.not_eq_true, fR_isSlot] at c5
    exact wp_some ⟨hσ_27, frσ_27⟩
  · have k7 := e2 c5
    try simp (disch := omega) only [w32_of, w64_of, w8_of, decide_eq_true_eq, decide_eq_false_iff_not, Bool.not_eq_true, fR_isSlot] at c5
    refine wp_bdk ?_
    refine wp_bd (v_has (σ := σ_27) (slot_0 := slot_0) hσ_27 (by (try dsimp only) <;> first | assumption | omega | ((try simp (disch := omega) only [w32_of, w64_of, w8_of]) <;> first | assumption | omega | (split <;> omega) | (refine And.intro ?_ ?_ <;> split <;> omega)) | omega)) ?_
    rintro x_31 - g8
    have c9 := ii_kR_planMany hσ_27 slot_0
    have c10 := FR_at flσ_27 (c := kR_planMany) (by decide) slot_0
    have c11 := ii_kR_planMany hσ_1 slot_0
    have c12 := FR_at flσ_1 (c := kR_planMany) (by decide) slot_0
    have c13 := ii_kR_planMany hσ slot_0
    try simp (disch := omega) only [w32_of, w64_of, w8_of] at g8
    refine wp_if (fun c14 => ?_) (fun c14 => ?_)
    · have k15 := g8.mp c14
      try simp (disch := omega) only [w32_of, w64_of, w8_of] at k15
      try simp (disch := omega) only [w32_of, w64_of, w8_of, decide_eq_true_eq, decide_eq_false_iff_not, Bool.not_eq_true] at c14
      refine wp_somek ?_
      try dsimp only
      have c18 := ii_kR_thrown hσ_27 0
      refine wp_fails hσ_27 (by (try dsimp only) <;> first | assumption | omega | ((try simp (disch := omega) only [w32_of, w64_of, w8_of]) <;> first | assumption | omega | (split <;> omega) | (refine And.intro ?_ ?_ <;> split <;> omega)) | omega) (by decide) (fun σ_37 hσ_37 flσ_37 e16 e17 => ?_)
      try dsimp only
      have frσ_37 : FR [kR_thrown] σ σ_37 := FR_tr frσ_27 flσ_37 (by decide) (by decide)
      have k19 := e17 (by decide)
      refine wp_ft ?_
      have c20 := w32_rng slot_0
      refine wp_rdI (by (try dsimp only) <;> first | assumption | omega | ((try simp (disch := omega) only [w32_of, w64_of, w8_of]) <;> first | assumption | omega | (split <;> omega) | (refine And.intro ?_ ?_ <;> split <;> omega)) | omega) (by (try dsimp only) <;> first | assumption | omega | ((try simp (disch := omega) only [w32_of, w64_of, w8_of]) <;> first | assumption | omega | (split <;> omega) | (refine And.intro ?_ ?_ <;> split <;> omega)) | omega) (fun x_40 e_x_40 => ?_)
      have b_x_40 : 0 ≤ x_40 ∧ x_40 ≤ 2048 := by rw [e_x_40]; exact ii_kR_planMany hσ_37 _
      rw [FR_at frσ_37 (c := kR_planMany) (by decide)] at e_x_40
      try simp (disch := omega) only [w32_of, w64_of, w8_of] at e_x_40
      refine wp_bd (P := fun rr_ => (0 ≤ rr_.2.1 ∧ rr_.2.1 ≤ 2147483647)) ?_ ?_
      · have hpm := ii_kR_planMany hσ slot_0
        have hqm := ii_kR_pointMany hσ slot_0
        refine wp_whl (fun ss_ => (FLw σ slot_0 ss_.2.1 ss_.2.2)) (fun ss_ => (2048 * slot_0 + 2050 - ss_.2.1).toNat) (by (try dsimp only) <;> (first | assumption | exact FLw_0 (w0 _ (by omega) (by omega)))) ?_
        rintro ⟨sum_42, p_43, point_44⟩ y21
        try dsimp only at y21 ⊢
        have gw := y21
        have hle := FLw_le gw
        have c23 := w32_rng p_43
        have c24 := w32_rng ((2048 * slot_0) + x_40)
        refine wp_if (fun c22 => ?_) (fun c22 => ?_)
        · try simp (disch := omega) only [w32_of, w64_of, w8_of, decide_eq_true_eq, decide_eq_false_iff_not, Bool.not_eq_true] at c22
          refine wp_rdI (by (try dsimp only) <;> first | assumption | omega | ((try simp (disch := omega) only [w32_of, w64_of, w8_of]) <;> first | assumption | omega | (split <;> omega) | (refine And.intro ?_ ?_ <;> split <;> omega)) | omega) (by (try dsimp only) <;> first | assumption | omega | ((try simp (disch := omega) only [w32_of, w64_of, w8_of]) <;> first | assumption | omega | (split <;> omega) | (refine And.intro ?_ ?_ <;> split <;> omega)) | omega) (fun x_53 e_x_53 => ?_)
          rw [FR_at frσ_37 (c := kR_plan) (by decide)] at e_x_53
          try simp (disch := omega) only [w32_of, w64_of, w8_of] at e_x_53
          have c25 := w32_rng (p_43 + 1)
          refine wp_rdI (by (try dsimp only) <;> first | assumption | omega | ((try simp (disch := omega) only [w32_of, w64_of, w8_of]) <;> first | assumption | omega | (split <;> omega) | (refine And.intro ?_ ?_ <;> split <;> omega)) | omega) (by (try dsimp only) <;> first | assumption | omega | ((try simp (disch := omega) only [w32_of, w64_of, w8_of]) <;> first | assumption | omega | (split <;> omega) | (refine And.intro ?_ ?_ <;> split <;> omega)) | omega) (fun x_55 e_x_55 => ?_)
          rw [FR_at frσ_37 (c := kR_plan) (by decide)] at e_x_55
          try simp (disch := omega) only [w32_of, w64_of, w8_of] at e_x_55
          obtain ⟨ho, hn, h2, h3, h4, h5, -⟩ := FLw_hd gw (by omega)
          have ho1 := ho.1
          have ho2 := ho.2.1
          have ho3 := ho.2.2.1
          refine wp_bd (P := fun rr_ => (0 ≤ rr_.2.2.2 ∧ rr_.2.2.2 ≤ 2147483647) ∧ (FLw σ slot_0 rr_.2.1 rr_.2.2.1) ∧ (p_43 + 2 ≤ rr_.2.1)) ?_ ?_
          · refine wp_whl (fun ss_ => (RWp (σ kR_plan) p_43 ss_.2.2.2 ss_.2.1 point_44 ss_.2.2.1)) (fun ss_ => (4096 - ss_.2.2.2).toNat) (by (try dsimp only) <;> (first | exact RW_0 ho e_x_53 e_x_55 | (rw [e_x_74]; exact r1))) ?_
            rintro ⟨sum_58, p_59, point_60, k_61⟩ y26
            try dsimp only at y26 ⊢
            have gr := y26
            have hrl := RW_le ho gr
            have c28 := w32_rng x_53
            have c29 := w32_rng k_61
            have c30 := w32_rng x_55
            refine wp_if (fun c27 => ?_) (fun c27 => ?_)
            · try simp (disch := omega) only [w32_of, w64_of, w8_of, decide_eq_true_eq, decide_eq_false_iff_not, Bool.not_eq_true] at c27
              obtain ⟨r1, r2, r3, r4, r5, r6⟩ := RW_go ho gr (by omega) (by omega)
              have c31 := w32_rng p_59
              refine wp_rdI (by (try dsimp only) <;> first | assumption | omega | ((try simp (disch := omega) only [w32_of, w64_of, w8_of]) <;> first | assumption | omega | (split <;> omega) | (refine And.intro ?_ ?_ <;> split <;> omega)) | omega) (by (try dsimp only) <;> first | assumption | omega | ((try simp (disch := omega) only [w32_of, w64_of, w8_of]) <;> first | assumption | omega | (split <;> omega) | (refine And.intro ?_ ?_ <;> split <;> omega)) | omega) (fun x_69 e_x_69 => ?_)
              rw [FR_at frσ_37 (c := kR_plan) (by decide)] at e_x_69
              try simp (disch := omega) only [w32_of, w64_of, w8_of] at e_x_69
              refine wp_bd (s_R_around (σ := σ_37) (from_0 := point_60) (n_0 := x_69) hσ_37 (by (try dsimp only) <;> first | assumption | omega | ((try simp (disch := omega) only [w32_of, w64_of, w8_of]) <;> first | assumption | omega | (split <;> omega) | (refine And.intro ?_ ?_ <;> split <;> omega)) | omega) (by (try dsimp only) <;> first | assumption | omega | ((try simp (disch := omega) only [w32_of, w64_of, w8_of]) <;> first | assumption | omega | (split <;> omega) | (refine And.intro ?_ ?_ <;> split <;> omega)) | omega) (by (try dsimp only) <;> first | assumption | omega | ((try simp (disch := omega) only [w32_of, w64_of, w8_of]) <;> first | assumption | omega | (split <;> omega) | (refine And.intro ?_ ?_ <;> split <;> omega)) | omega)) ?_
              rintro x_72 - -
              refine wp_rdI (by (try dsimp only) <;> first | assumption | omega | ((try simp (disch := omega) only [w32_of, w64_of, w8_of]) <;> first | assumption | omega | (split <;> omega) | (refine And.intro ?_ ?_ <;> split <;> omega)) | omega) (by (try dsimp only) <;> first | assumption | omega | ((try simp (disch := omega) only [w32_of, w64_of, w8_of]) <;> first | assumption | omega | (split <;> omega) | (refine And.intro ?_ ?_ <;> split <;> omega)) | omega) (fun x_74 e_x_74 => ?_)
              rw [FR_at frσ_37 (c := kR_plan) (by decide)] at e_x_74
              try simp (disch := omega) only [w32_of, w64_of, w8_of] at e_x_74
              exact wp_some (x_inl ⟨(by (try dsimp only) <;> (first | exact RW_0 ho e_x_53 e_x_55 | (rw [e_x_74]; exact r1))), (by (try dsimp only) <;> first | assumption | omega | ((try simp (disch := omega) only [w32_of, w64_of, w8_of]) <;> first | assumption | omega | (split <;> omega) | (refine And.intro ?_ ?_ <;> split <;> omega)) | omega)⟩)
            · try simp (disch := omega) only [w32_of, w64_of, w8_of, decide_eq_true_eq, decide_eq_false_iff_not, Bool.not_eq_true] at c27
              obtain ⟨r1, r2⟩ := RW_end ho gr (by omega)
              exact wp_some (x_inr ⟨(by (try dsimp only) <;> first | assumption | omega | ((try simp (disch := omega) only [w32_of, w64_of, w8_of]) <;> first | assumption | omega | (split <;> omega) | (refine And.intro ?_ ?_ <;> split <;> omega)) | omega), (by (try dsimp only) <;> (rw [r1, r2]; exact hn)), (by (try dsimp only) <;> first | assumption | omega | ((try simp (disch := omega) only [w32_of, w64_of, w8_of]) <;> first | assumption | omega | (split <;> omega) | (refine And.intro ?_ ?_ <;> split <;> omega)) | omega)⟩)
          rintro ⟨sum_86, p_87, point_88, k_89⟩ _ y36
          try dsimp only at y36 ⊢
          obtain ⟨g33, g34, g35⟩ := y36
          exact wp_some (x_inl ⟨(by (try dsimp only) <;> (first | assumption | exact FLw_0 (w0 _ (by omega) (by omega)))), (by (try dsimp only) <;> first | assumption | omega | ((try simp (disch := omega) only [w32_of, w64_of, w8_of]) <;> first | assumption | omega | (split <;> omega) | (refine And.intro ?_ ?_ <;> split <;> omega)) | omega)⟩)
        · try simp (disch := omega) only [w32_of, w64_of, w8_of, decide_eq_true_eq, decide_eq_false_iff_not, Bool.not_eq_true] at c22
          exact wp_some (x_inr (by (try dsimp only) <;> first | assumption | omega | ((try simp (disch := omega) only [w32_of, w64_of, w8_of]) <;> first | assumption | omega | (split <;> omega) | (refine And.intro ?_ ?_ <;> split <;> omega)) | omega))
      rintro ⟨sum_94, p_95, point_96⟩ _ y38
      try dsimp only at y38 ⊢
      have g37 := y38
      exact wp_some ⟨hσ_37, frσ_37⟩
    · have k39 := fun q => c14 (g8.mpr q)
      try simp (disch := omega) only [w32_of, w64_of, w8_of] at k39
      try simp (disch := omega) only [w32_of, w64_of, w8_of, decide_eq_true_eq, decide_eq_false_iff_not, Bool.not_eq_true] at c14
      refine wp_somek ?_
      try dsimp only
      have c42 := ii_kR_thrown hσ_27 0
      refine wp_fails hσ_27 (by (try dsimp only) <;> first | assumption | omega | ((try simp (disch := omega) only [w32_of, w64_of, w8_of]) <;> first | assumption | omega | (split <;> omega) | (refine And.intro ?_ ?_ <;> split <;> omega)) | omega) (by decide) (fun σ_37 hσ_37 flσ_37 e40 e41 => ?_)
      try dsimp only
      have frσ_37 : FR [kR_thrown] σ σ_37 := FR_tr frσ_27 flσ_37 (by decide) (by decide)
      have k43 := e40 rfl
      refine wp_tt ?_
      exact wp_some ⟨hσ_37, frσ_37⟩
theorem s_R_gather {σ : SG} {slot_0 : Int} {from_0 : Int} {first_0 : Int} {part_0 : Int} (hσ : II σ) (qslot_0 : 0 ≤ slot_0 ∧ slot_0 ≤ 31) (qpart_0 : 0 ≤ part_0 ∧ part_0 ≤ 2147483647) (w0 : eO (σ kR_plan) from_0) (w1 : σ kR_plan from_0 = 3) (w2 : 0 ≤ from_0) (w3 : from_0 + eL (σ kR_plan) from_0 ≤ 67584) (w4 : 0 ≤ first_0) (w5 : first_0 + eP (σ kR_plan) from_0 ≤ 67584) (w6 : part_0 = σ kR_partMany 0) (w7 : part_0 ≤ 1023) (w8 : σ kR_ringMany 0 + σ kR_plan (from_0 + 1) ≤ 2047) (w9 : GTb σ) (w10 : su_ (σ kR_ringSize) 0 (σ kR_ringMany 0).toNat + eP (σ kR_plan) from_0 ≤ 2048) : wp_ (fR_gather σ slot_0 from_0 first_0 part_0) (fun zz_ => II zz_.2 ∧ FR [kR_partFrom, kR_partMany, kR_ringFrom, kR_ringMany, kR_ringNumber, kR_ringPart, kR_ringSize] σ zz_.2 ∧ (zz_.1 = first_0 + eP (σ kR_plan) from_0) ∧ (zz_.2 kR_ringMany 0 = σ kR_ringMany 0 + σ kR_plan (from_0 + 1)) ∧ (GTb zz_.2) ∧ (su_ (zz_.2 kR_ringSize) 0 (zz_.2 kR_ringMany 0).toNat = su_ (σ kR_ringSize) 0 (σ kR_ringMany 0).toNat + eP (σ kR_plan) from_0) ∧ (zz_.2 kR_partMany 0 = part_0 + 1)) := by
  unfold fR_gather
  have c1 := ii_kR_partMany hσ 0
  have c2 := ii_kR_ringMany hσ 0
  have wG := w9
  have hn0 := w0.2.2.1.1
  have hn9 := w0.2.2.1.2
  have hel := el_3 w1
  have hrm := ii_kR_ringMany hσ 0
  have hp0 := eP_0 w0
  have c3 := w32_rng part_0
  refine wp_waI hσ b_kR_partFrom (by (try dsimp only) <;> first | assumption | omega | ((try simp (disch := omega) only [w32_of, w64_of, w8_of]) <;> first | assumption | omega | (split <;> omega) | (refine And.intro ?_ ?_ <;> split <;> omega)) | omega) (by (try dsimp only) <;> first | assumption | omega | ((try simp (disch := omega) only [w32_of, w64_of, w8_of]) <;> first | assumption | omega | (split <;> omega) | (refine And.intro ?_ ?_ <;> split <;> omega)) | omega) (by (try dsimp only) <;> first | assumption | omega | ((try simp (disch := omega) only [w32_of, w64_of, w8_of]) <;> first | assumption | omega | (split <;> omega) | (refine And.intro ?_ ?_ <;> split <;> omega)) | omega) (fun σ_1 hσ_1 eσ_1 => ?_)
  try simp (disch := omega) only [w32_of, w64_of, w8_of] at eσ_1
  have flσ_1 := FR_sg eσ_1
  have frσ_1 : FR [kR_partFrom, kR_partMany, kR_ringFrom, kR_ringMany, kR_ringNumber, kR_ringPart, kR_ringSize] σ σ_1 := FR_le flσ_1 (by decide)
  have c4 := w32_rng (from_0 + 1)
  refine wp_rdI (by (try dsimp only) <;> first | assumption | omega | ((try simp (disch := omega) only [w32_of, w64_of, w8_of]) <;> first | assumption | omega | (split <;> omega) | (refine And.intro ?_ ?_ <;> split <;> omega)) | omega) (by (try dsimp only) <;> first | assumption | omega | ((try simp (disch := omega) only [w32_of, w64_of, w8_of]) <;> first | assumption | omega | (split <;> omega) | (refine And.intro ?_ ?_ <;> split <;> omega)) | omega) (fun x_3 e_x_3 => ?_)
  rw [FR_at frσ_1 (c := kR_plan) (by decide)] at e_x_3
  try simp (disch := omega) only [w32_of, w64_of, w8_of] at e_x_3
  refine wp_bd (P := fun rr_ => (0 ≤ rr_.2.1 ∧ rr_.2.1 ≤ 2147483647) ∧ II rr_.2.2 ∧ FR [kR_partFrom, kR_partMany, kR_ringFrom, kR_ringMany, kR_ringNumber, kR_ringPart, kR_ringSize] σ rr_.2.2 ∧ (rr_.1 = first_0 + eP (σ kR_plan) from_0) ∧ (rr_.2.2 kR_ringMany 0 = σ kR_ringMany 0 + σ kR_plan (from_0 + 1)) ∧ (su_ (rr_.2.2 kR_ringSize) 0 (rr_.2.2 kR_ringMany 0).toNat = su_ (σ kR_ringSize) 0 (σ kR_ringMany 0).toNat + eP (σ kR_plan) from_0) ∧ (∀ r, 0 ≤ r → r < rr_.2.2 kR_ringMany 0 → rr_.2.2 kR_ringFrom r + rr_.2.2 kR_ringSize r ≤ 67584) ∧ (rr_.2.2 kR_partFrom = σ_1 kR_partFrom)) ?_ ?_
  · have c5 := ii_kR_ringMany hσ_1 0
    have c6 := FR_at flσ_1 (c := kR_ringMany) (by decide) 0
    refine wp_whl (fun ss_ => II ss_.2.2 ∧ FR [kR_partFrom, kR_partMany, kR_ringFrom, kR_ringMany, kR_ringNumber, kR_ringPart, kR_ringSize] σ ss_.2.2 ∧ (RWp (σ kR_plan) from_0 ss_.2.1 (from_0 + 2 + ss_.2.1) first_0 ss_.1) ∧ (ss_.2.2 kR_ringMany 0 = σ kR_ringMany 0 + ss_.2.1) ∧ (su_ (ss_.2.2 kR_ringSize) 0 (ss_.2.2 kR_ringMany 0).toNat + first_0 = su_ (σ kR_ringSize) 0 (σ kR_ringMany 0).toNat + ss_.1) ∧ (∀ r, 0 ≤ r → r < ss_.2.2 kR_ringMany 0 → ss_.2.2 kR_ringFrom r + ss_.2.2 kR_ringSize r ≤ 67584) ∧ (ss_.2.2 kR_partFrom = σ_1 kR_partFrom)) (fun ss_ => (4096 - ss_.2.1).toNat) ⟨hσ_1, frσ_1, (by (try dsimp only) <;> (first | exact ⟨Int.le_refl 0, Or.inl ⟨w1, hn0, by omega, by show first_0 = first_0 + 0; omega⟩⟩ | (rw [show from_0 + 2 + (k_6 + 1) = from_0 + 2 + k_6 + 1 by omega, xv]; exact r1))), (by (try dsimp only) <;> first | assumption | omega | ((try simp (disch := omega) only [w32_of, w64_of, w8_of]) <;> first | assumption | omega | (split <;> omega) | (refine And.intro ?_ ?_ <;> split <;> omega)) | omega), (by (try dsimp only) <;> (first | (have g1 : σ_1 kR_ringSize = σ kR_ringSize := (by funext j; simp (disch := first | decide | omega) only [eσ_1, sg_at, sg_nc, sg_ni]); have g2 : σ_1 kR_ringMany 0 = σ kR_ringMany 0 := (by simp (disch := first | decide | omega) only [eσ_1, sg_at, sg_nc, sg_ni]); rw [g1, g2]) | (rw [xM, su_i (by omega), xS, show (0 : Int) + σ_7 kR_ringMany 0 = σ_7 kR_ringMany 0 by omega, xS2, xv]; omega))), (by (try dsimp only) <;> (first | (intro r a b; rw [show σ_1 kR_ringMany 0 = σ kR_ringMany 0 by simp (disch := first | decide | omega) only [eσ_1, sg_at, sg_nc, sg_ni]] at b; have := wG.1 r a b; simp (disch := first | decide | omega) only [eσ_1, sg_at, sg_nc, sg_ni]; exact this) | (intro r a b; rw [xM] at b; by_cases z : r = σ_7 kR_ringMany 0 <;> first | (rw [z, xS2, xF]; omega) | (rw [xFn r z, xSn r z]; exact gB r a (by omega))))), (by (try dsimp only) <;> (first | rfl | (rw [← gP]; funext j; simp (disch := first | decide | omega) only [eσ_28, eσ_24, eσ_22, eσ_20, eσ_16, sg_at, sg_nc, sg_ni])))⟩ ?_
    rintro ⟨p_5, k_6, σ_7⟩ y7
    try dsimp only at y7 ⊢
    obtain ⟨hσ_7, frσ_7, gr, gM, gS, gB, gP⟩ := y7
    have hrl := RW_le w0 gr
    have hsn := su_nn (pl := σ_7 kR_ringSize) (p := 0) (n := (σ_7 kR_ringMany 0).toNat) (fun i _ _ => (ii_kR_ringSize hσ_7 i).1)
    have hsn2 := su_nn (pl := σ kR_ringSize) (p := 0) (n := (σ kR_ringMany 0).toNat) (fun i _ _ => (ii_kR_ringSize hσ i).1)
    have c9 := w32_rng k_6
    have c10 := w32_rng x_3
    refine wp_if (fun c8 => ?_) (fun c8 => ?_)
    · try simp (disch := omega) only [w32_of, w64_of, w8_of, decide_eq_true_eq, decide_eq_false_iff_not, Bool.not_eq_true] at c8
      obtain ⟨r1, r2, r3, r4, r5, r6⟩ := RW_go w0 gr w1 (by omega)
      have c11 := ii_kR_ringMany hσ_7 0
      have c12 := w32_rng (σ_7 kR_ringMany 0)
      refine wp_waI hσ_7 b_kR_ringFrom (by (try dsimp only) <;> first | assumption | omega | ((try simp (disch := omega) only [w32_of, w64_of, w8_of]) <;> first | assumption | omega | (split <;> omega) | (refine And.intro ?_ ?_ <;> split <;> omega)) | omega) (by (try dsimp only) <;> first | assumption | omega | ((try simp (disch := omega) only [w32_of, w64_of, w8_of]) <;> first | assumption | omega | (split <;> omega) | (refine And.intro ?_ ?_ <;> split <;> omega)) | omega) (by (try dsimp only) <;> first | assumption | omega | ((try simp (disch := omega) only [w32_of, w64_of, w8_of]) <;> first | assumption | omega | (split <;> omega) | (refine And.intro ?_ ?_ <;> split <;> omega)) | omega) (fun σ_16 hσ_16 eσ_16 => ?_)
      try simp (disch := omega) only [w32_of, w64_of, w8_of] at eσ_16
      have flσ_16 := FR_sg eσ_16
      have frσ_16 : FR [kR_partFrom, kR_partMany, kR_ringFrom, kR_ringMany, kR_ringNumber, kR_ringPart, kR_ringSize] σ σ_16 := FR_tr frσ_7 flσ_16 (by decide) (by decide)
      have c13 := w32_rng ((from_0 + 2) + k_6)
      refine wp_rdI (by (try dsimp only) <;> first | assumption | omega | ((try simp (disch := omega) only [w32_of, w64_of, w8_of]) <;> first | assumption | omega | (split <;> omega) | (refine And.intro ?_ ?_ <;> split <;> omega)) | omega) (by (try dsimp only) <;> first | assumption | omega | ((try simp (disch := omega) only [w32_of, w64_of, w8_of]) <;> first | assumption | omega | (split <;> omega) | (refine And.intro ?_ ?_ <;> split <;> omega)) | omega) (fun x_18 e_x_18 => ?_)
      rw [FR_at frσ_16 (c := kR_plan) (by decide)] at e_x_18
      try simp (disch := omega) only [w32_of, w64_of, w8_of] at e_x_18
      have c14 := ii_kR_ringMany hσ_16 0
      have c15 := FR_at flσ_16 (c := kR_ringMany) (by decide) 0
      have c16 := w32_rng (σ_16 kR_ringMany 0)
      refine wp_waI hσ_16 b_kR_ringSize (by (try dsimp only) <;> first | assumption | omega | ((try simp (disch := omega) only [w32_of, w64_of, w8_of]) <;> first | assumption | omega | (split <;> omega) | (refine And.intro ?_ ?_ <;> split <;> omega)) | omega) (by (try dsimp only) <;> first | assumption | omega | ((try simp (disch := omega) only [w32_of, w64_of, w8_of]) <;> first | assumption | omega | (split <;> omega) | (refine And.intro ?_ ?_ <;> split <;> omega)) | omega) (by (try dsimp only) <;> first | assumption | omega | ((try simp (disch := omega) only [w32_of, w64_of, w8_of]) <;> first | assumption | omega | (split <;> omega) | (refine And.intro ?_ ?_ <;> split <;> omega)) | omega) (fun σ_20 hσ_20 eσ_20 => ?_)
      try simp (disch := omega) only [w32_of, w64_of, w8_of] at eσ_20
      have flσ_20 := FR_sg eσ_20
      have frσ_20 : FR [kR_partFrom, kR_partMany, kR_ringFrom, kR_ringMany, kR_ringNumber, kR_ringPart, kR_ringSize] σ σ_20 := FR_tr frσ_16 flσ_20 (by decide) (by decide)
      have c17 := ii_kR_ringMany hσ_20 0
      have c18 := FR_at flσ_20 (c := kR_ringMany) (by decide) 0
      have c19 := w32_rng (σ_20 kR_ringMany 0)
      refine wp_waI hσ_20 b_kR_ringPart (by (try dsimp only) <;> first | assumption | omega | ((try simp (disch := omega) only [w32_of, w64_of, w8_of]) <;> first | assumption | omega | (split <;> omega) | (refine And.intro ?_ ?_ <;> split <;> omega)) | omega) (by (try dsimp only) <;> first | assumption | omega | ((try simp (disch := omega) only [w32_of, w64_of, w8_of]) <;> first | assumption | omega | (split <;> omega) | (refine And.intro ?_ ?_ <;> split <;> omega)) | omega) (by (try dsimp only) <;> first | assumption | omega | ((try simp (disch := omega) only [w32_of, w64_of, w8_of]) <;> first | assumption | omega | (split <;> omega) | (refine And.intro ?_ ?_ <;> split <;> omega)) | omega) (fun σ_22 hσ_22 eσ_22 => ?_)
      try simp (disch := omega) only [w32_of, w64_of, w8_of] at eσ_22
      have flσ_22 := FR_sg eσ_22
      have frσ_22 : FR [kR_partFrom, kR_partMany, kR_ringFrom, kR_ringMany, kR_ringNumber, kR_ringPart, kR_ringSize] σ σ_22 := FR_tr frσ_20 flσ_22 (by decide) (by decide)
      have c20 := ii_kR_ringMany hσ_22 0
      have c21 := FR_at flσ_22 (c := kR_ringMany) (by decide) 0
      have c22 := w32_rng (σ_22 kR_ringMany 0)
      refine wp_waI hσ_22 b_kR_ringNumber (by (try dsimp only) <;> first | assumption | omega | ((try simp (disch := omega) only [w32_of, w64_of, w8_of]) <;> first | assumption | omega | (split <;> omega) | (refine And.intro ?_ ?_ <;> split <;> omega)) | omega) (by (try dsimp only) <;> first | assumption | omega | ((try simp (disch := omega) only [w32_of, w64_of, w8_of]) <;> first | assumption | omega | (split <;> omega) | (refine And.intro ?_ ?_ <;> split <;> omega)) | omega) (by (try dsimp only) <;> first | assumption | omega | ((try simp (disch := omega) only [w32_of, w64_of, w8_of]) <;> first | assumption | omega | (split <;> omega) | (refine And.intro ?_ ?_ <;> split <;> omega)) | omega) (fun σ_24 hσ_24 eσ_24 => ?_)
      try simp (disch := omega) only [w32_of, w64_of, w8_of] at eσ_24
      have flσ_24 := FR_sg eσ_24
      have frσ_24 : FR [kR_partFrom, kR_partMany, kR_ringFrom, kR_ringMany, kR_ringNumber, kR_ringPart, kR_ringSize] σ σ_24 := FR_tr frσ_22 flσ_24 (by decide) (by decide)
      have c23 := ii_kR_ringMany hσ_24 0
      have c24 := FR_at flσ_24 (c := kR_ringMany) (by decide) 0
      have c25 := w32_rng (σ_24 kR_ringMany 0)
      refine wp_rdI (by (try dsimp only) <;> first | assumption | omega | ((try simp (disch := omega) only [w32_of, w64_of, w8_of]) <;> first | assumption | omega | (split <;> omega) | (refine And.intro ?_ ?_ <;> split <;> omega)) | omega) (by (try dsimp only) <;> first | assumption | omega | ((try simp (disch := omega) only [w32_of, w64_of, w8_of]) <;> first | assumption | omega | (split <;> omega) | (refine And.intro ?_ ?_ <;> split <;> omega)) | omega) (fun x_26 e_x_26 => ?_)
      have b_x_26 : 0 ≤ x_26 ∧ x_26 ≤ 2048 := by rw [e_x_26]; exact ii_kR_ringSize hσ_24 _
      try simp (disch := omega) only [w32_of, w64_of, w8_of] at e_x_26
      refine wp_wfI hσ_24 b_kR_ringMany (by (try dsimp only) <;> first | assumption | omega | ((try simp (disch := omega) only [w32_of, w64_of, w8_of]) <;> first | assumption | omega | (split <;> omega) | (refine And.intro ?_ ?_ <;> split <;> omega)) | omega) (fun σ_28 hσ_28 eσ_28 => ?_)
      try simp (disch := omega) only [w32_of, w64_of, w8_of] at eσ_28
      have flσ_28 := FR_sg eσ_28
      have frσ_28 : FR [kR_partFrom, kR_partMany, kR_ringFrom, kR_ringMany, kR_ringNumber, kR_ringPart, kR_ringSize] σ σ_28 := FR_tr frσ_24 flσ_28 (by decide) (by decide)
      have m1 : σ_16 kR_ringMany 0 = σ_7 kR_ringMany 0 := by simp (disch := first | decide | omega) only [eσ_16, sg_at, sg_nc, sg_ni]
      have m2 : σ_20 kR_ringMany 0 = σ_7 kR_ringMany 0 := by simp (disch := first | decide | omega) only [eσ_20, eσ_16, sg_at, sg_nc, sg_ni]
      have m3 : σ_22 kR_ringMany 0 = σ_7 kR_ringMany 0 := by simp (disch := first | decide | omega) only [eσ_22, eσ_20, eσ_16, sg_at, sg_nc, sg_ni]
      have m4 : σ_24 kR_ringMany 0 = σ_7 kR_ringMany 0 := by simp (disch := first | decide | omega) only [eσ_24, eσ_22, eσ_20, eσ_16, sg_at, sg_nc, sg_ni]
      rw [m1] at eσ_20
      rw [m2] at eσ_22
      rw [m3] at eσ_24
      rw [m4] at eσ_28 e_x_26
      have xv : x_26 = σ kR_plan (from_0 + 2 + k_6) := by rw [e_x_26]; simp (disch := first | decide | omega) only [eσ_24, eσ_22, eσ_20, sg_at, sg_nc, sg_ni]; exact e_x_18
      have xM : σ_28 kR_ringMany 0 = σ_7 kR_ringMany 0 + 1 := by simp (disch := first | decide | omega) only [eσ_28, sg_at, sg_nc, sg_ni]
      have xS2 : σ_28 kR_ringSize (σ_7 kR_ringMany 0) = σ kR_plan (from_0 + 2 + k_6) := by simp (disch := first | decide | omega) only [eσ_28, eσ_24, eσ_22, eσ_20, sg_at, sg_nc, sg_ni]; exact e_x_18
      have xF : σ_28 kR_ringFrom (σ_7 kR_ringMany 0) = p_5 := by simp (disch := first | decide | omega) only [eσ_28, eσ_24, eσ_22, eσ_20, eσ_16, sg_at, sg_nc, sg_ni]
      have xFn : ∀ r, ¬ r = σ_7 kR_ringMany 0 → σ_28 kR_ringFrom r = σ_7 kR_ringFrom r := fun r z => by simp (disch := first | decide | omega) only [eσ_28, eσ_24, eσ_22, eσ_20, eσ_16, sg_at, sg_nc, sg_ni]
      have xSn : ∀ r, ¬ r = σ_7 kR_ringMany 0 → σ_28 kR_ringSize r = σ_7 kR_ringSize r := fun r z => by simp (disch := first | decide | omega) only [eσ_28, eσ_24, eσ_22, eσ_20, eσ_16, sg_at, sg_nc, sg_ni]
      have xS : su_ (σ_28 kR_ringSize) 0 (σ_7 kR_ringMany 0).toNat = su_ (σ_7 kR_ringSize) 0 (σ_7 kR_ringMany 0).toNat := su_cg (fun i a b => xSn i (by omega))
      have c26 := ii_kR_ringMany hσ_28 0
      have c27 := sg_val eσ_28
      exact wp_some (x_inl ⟨⟨hσ_28, frσ_28, (by (try dsimp only) <;> (first | exact ⟨Int.le_refl 0, Or.inl ⟨w1, hn0, by omega, by show first_0 = first_0 + 0; omega⟩⟩ | (rw [show from_0 + 2 + (k_6 + 1) = from_0 + 2 + k_6 + 1 by omega, xv]; exact r1))), (by (try dsimp only) <;> first | assumption | omega | ((try simp (disch := omega) only [w32_of, w64_of, w8_of]) <;> first | assumption | omega | (split <;> omega) | (refine And.intro ?_ ?_ <;> split <;> omega)) | omega), (by (try dsimp only) <;> (first | (have g1 : σ_1 kR_ringSize = σ kR_ringSize := (by funext j; simp (disch := first | decide | omega) only [eσ_1, sg_at, sg_nc, sg_ni]); have g2 : σ_1 kR_ringMany 0 = σ kR_ringMany 0 := (by simp (disch := first | decide | omega) only [eσ_1, sg_at, sg_nc, sg_ni]); rw [g1, g2]) | (rw [xM, su_i (by omega), xS, show (0 : Int) + σ_7 kR_ringMany 0 = σ_7 kR_ringMany 0 by omega, xS2, xv]; omega))), (by (try dsimp only) <;> (first | (intro r a b; rw [show σ_1 kR_ringMany 0 = σ kR_ringMany 0 by simp (disch := first | decide | omega) only [eσ_1, sg_at, sg_nc, sg_ni]] at b; have := wG.1 r a b; simp (disch := first | decide | omega) only [eσ_1, sg_at, sg_nc, sg_ni]; exact this) | (intro r a b; rw [xM] at b; by_cases z : r = σ_7 kR_ringMany 0 <;> first | (rw [z, xS2, xF]; omega) | (rw [xFn r z, xSn r z]; exact gB r a (by omega))))), (by (try dsimp only) <;> (first | rfl | (rw [← gP]; funext j; simp (disch := first | decide | omega) only [eσ_28, eσ_24, eσ_22, eσ_20, eσ_16, sg_at, sg_nc, sg_ni])))⟩, (by (try dsimp only) <;> first | assumption | omega | ((try simp (disch := omega) only [w32_of, w64_of, w8_of]) <;> first | assumption | omega | (split <;> omega) | (refine And.intro ?_ ?_ <;> split <;> omega)) | omega)⟩)
    · try simp (disch := omega) only [w32_of, w64_of, w8_of, decide_eq_true_eq, decide_eq_false_iff_not, Bool.not_eq_true] at c8
      obtain ⟨r1, r2⟩ := RW_end w0 gr (by omega)
      have rk : k_6 = σ kR_plan (from_0 + 1) := by omega
      have c28 := ii_kR_ringMany hσ_7 0
      exact wp_some (x_inr ⟨(by (try dsimp only) <;> first | assumption | omega | ((try simp (disch := omega) only [w32_of, w64_of, w8_of]) <;> first | assumption | omega | (split <;> omega) | (refine And.intro ?_ ?_ <;> split <;> omega)) | omega), hσ_7, frσ_7, (by (try dsimp only) <;> (exact r2)), (by (try dsimp only) <;> (omega)), (by (try dsimp only) <;> (omega)), (by (try dsimp only) <;> (exact gB)), (by (try dsimp only) <;> (exact gP))⟩)
  rintro ⟨p_31, k_32, σ_33⟩ _ y30
  try dsimp only at y30 ⊢
  obtain ⟨g29, hσ_33, frσ_33, r2, rM0, gS2, gB, gP⟩ := y30
  refine wp_wfI hσ_33 b_kR_partMany (by (try dsimp only) <;> first | assumption | omega | ((try simp (disch := omega) only [w32_of, w64_of, w8_of]) <;> first | assumption | omega | (split <;> omega) | (refine And.intro ?_ ?_ <;> split <;> omega)) | omega) (fun σ_34 hσ_34 eσ_34 => ?_)
  try simp (disch := omega) only [w32_of, w64_of, w8_of] at eσ_34
  have flσ_34 := FR_sg eσ_34
  have frσ_34 : FR [kR_partFrom, kR_partMany, kR_ringFrom, kR_ringMany, kR_ringNumber, kR_ringPart, kR_ringSize] σ σ_34 := FR_tr frσ_33 flσ_34 (by decide) (by decide)
  have c31 := ii_kR_ringMany hσ_34 0
  have c32 := FR_at flσ_34 (c := kR_ringMany) (by decide) 0
  have c33 := ii_kR_ringMany hσ_33 0
  have c34 := ii_kR_partMany hσ_34 0
  have c35 := sg_val eσ_34
  have c36 := w32_rng (σ_34 kR_partMany 0)
  refine wp_waI hσ_34 b_kR_partFrom (by (try dsimp only) <;> first | assumption | omega | ((try simp (disch := omega) only [w32_of, w64_of, w8_of]) <;> first | assumption | omega | (split <;> omega) | (refine And.intro ?_ ?_ <;> split <;> omega)) | omega) (by (try dsimp only) <;> first | assumption | omega | ((try simp (disch := omega) only [w32_of, w64_of, w8_of]) <;> first | assumption | omega | (split <;> omega) | (refine And.intro ?_ ?_ <;> split <;> omega)) | omega) (by (try dsimp only) <;> first | assumption | omega | ((try simp (disch := omega) only [w32_of, w64_of, w8_of]) <;> first | assumption | omega | (split <;> omega) | (refine And.intro ?_ ?_ <;> split <;> omega)) | omega) (fun σ_35 hσ_35 eσ_35 => ?_)
  try simp (disch := omega) only [w32_of, w64_of, w8_of] at eσ_35
  have flσ_35 := FR_sg eσ_35
  have frσ_35 : FR [kR_partFrom, kR_partMany, kR_ringFrom, kR_ringMany, kR_ringNumber, kR_ringPart, kR_ringSize] σ σ_35 := FR_tr frσ_34 flσ_35 (by decide) (by decide)
  have rM : σ_35 kR_ringMany 0 = σ kR_ringMany 0 + σ kR_plan (from_0 + 1) := by simp (disch := first | decide | omega) only [eσ_35, eσ_34, sg_at, sg_nc, sg_ni]; exact rM0
  have rQ : σ_34 kR_partMany 0 = part_0 + 1 := by simp (disch := first | decide | omega) only [eσ_34, sg_at, sg_nc, sg_ni]
  rw [rQ, show σ_34 kR_ringMany 0 = σ_33 kR_ringMany 0 by simp (disch := first | decide | omega) only [eσ_34, sg_at, sg_nc, sg_ni]] at eσ_35
  have rP : ∀ q, σ_35 kR_partFrom q = if q = part_0 + 1 then σ_33 kR_ringMany 0 else if q = part_0 then σ kR_ringMany 0 else σ kR_partFrom q := fun q => by
    rw [eσ_35]
    by_cases z : q = part_0 + 1
    · rw [if_pos z, z, sg_at]
    · rw [if_neg z, sg_ni z, eσ_34, sg_nc (by decide), gP, eσ_1]
      by_cases y : q = part_0
      · rw [if_pos y, y, sg_at]
      · rw [if_neg y, sg_ni y]
  have rN : σ_35 kR_partMany 0 = part_0 + 1 := by rw [eσ_35, sg_nc (by decide)]; exact rQ
  have rF : ∀ r, σ_35 kR_ringFrom r = σ_33 kR_ringFrom r := fun r => by simp (disch := first | decide | omega) only [eσ_35, eσ_34, sg_at, sg_nc, sg_ni]
  have rS : ∀ r, σ_35 kR_ringSize r = σ_33 kR_ringSize r := fun r => by simp (disch := first | decide | omega) only [eσ_35, eσ_34, sg_at, sg_nc, sg_ni]
  have gtr : GTb σ_35 := by
    refine ⟨fun r a b => by rw [rF, rS]; exact gB r a (by omega), fun q a b c9 => ?_, fun q a b => ?_⟩
    · rw [rN] at b
      rw [rP, rM]
      split
      · omega
      · split
        · omega
        · have := wG.2.1 q a (by omega) (by omega); omega
    · rw [rN] at b
      rw [rP, rP]
      by_cases y : q = part_0
      · rw [if_neg (by omega), if_pos y, if_pos (by omega)]; omega
      · rw [if_neg (by omega), if_neg y, if_neg (by omega)]
        by_cases z : q + 1 = part_0
        · rw [if_pos z]; exact wG.2.1 q a (by omega) (by omega)
        · rw [if_neg z]; exact wG.2.2 q a (by omega)
  have c37 := ii_kR_ringMany hσ_35 0
  have c38 := FR_at flσ_35 (c := kR_ringMany) (by decide) 0
  have c39 := ii_kR_partMany hσ_35 0
  have c40 := FR_at flσ_35 (c := kR_partMany) (by decide) 0
  exact wp_some ⟨hσ_35, frσ_35, (by (try dsimp only) <;> (exact r2)), (by (try dsimp only) <;> (exact rM)), (by (try dsimp only) <;> (exact gtr)), (by (try dsimp only) <;> (have g1 : σ_35 kR_ringSize = σ_33 kR_ringSize := (by funext j; simp (disch := first | decide | omega) only [eσ_35, eσ_34, sg_at, sg_nc, sg_ni]); have g2 : σ_35 kR_ringMany 0 = σ_33 kR_ringMany 0 := (by simp (disch := first | decide | omega) only [eσ_35, eσ_34, sg_at, sg_nc, sg_ni]); rw [g1, g2]; omega)), (by (try dsimp only) <;> first | assumption | omega | ((try simp (disch := omega) only [w32_of, w64_of, w8_of]) <;> first | assumption | omega | (split <;> omega) | (refine And.intro ?_ ?_ <;> split <;> omega)) | omega)⟩
theorem s_R_segmentsOfRings {σ : SG} (hσ : II σ) (w0 : GTb σ) (w1 : σ kR_ringMany 0 ≤ 2047) (w2 : su_ (σ kR_ringSize) 0 (σ kR_ringMany 0).toNat ≤ 2048) : wp_ (fR_segmentsOfRings σ) (fun zz_ => II zz_ ∧ FR [kR_ex, kR_ey, kR_firstSegment, kR_numberOf, kR_ringOf, kR_segments, kR_shapeOf, kR_sx, kR_sy] σ zz_ ∧ (JTb zz_)) := by
  unfold fR_segmentsOfRings
  have c1 := ii_kR_ringMany hσ 0
  have hrm := ii_kR_ringMany hσ 0
  have snn : ∀ r : Int, 0 ≤ r → r < σ kR_ringMany 0 → su_ (σ kR_ringSize) 0 (r + 1).toNat = su_ (σ kR_ringSize) 0 r.toNat + σ kR_ringSize r ∧ 0 ≤ su_ (σ kR_ringSize) 0 r.toNat ∧ su_ (σ kR_ringSize) 0 (r + 1).toNat ≤ 2048 := fun r a b => by
    have e := su_i (pl := σ kR_ringSize) (p := 0) a
    rw [show (0 : Int) + r = r by omega] at e
    have l := su_le (pl := σ kR_ringSize) (p := 0) (m := (r + 1).toNat) (n := (σ kR_ringMany 0).toNat) (by omega) (fun i _ _ => (ii_kR_ringSize hσ i).1)
    have z := su_nn (pl := σ kR_ringSize) (p := 0) (n := r.toNat) (fun i _ _ => (ii_kR_ringSize hσ i).1)
    exact ⟨e, z, by omega⟩
  refine wp_wfI hσ b_kR_segments (by (try dsimp only) <;> first | assumption | omega | ((try simp (disch := omega) only [w32_of, w64_of, w8_of]) <;> first | assumption | omega | (split <;> omega) | (refine And.intro ?_ ?_ <;> split <;> omega)) | omega) (fun σ_1 hσ_1 eσ_1 => ?_)
  try simp (disch := omega) only [w32_of, w64_of, w8_of] at eσ_1
  have flσ_1 := FR_sg eσ_1
  have frσ_1 : FR [kR_ex, kR_ey, kR_firstSegment, kR_numberOf, kR_ringOf, kR_segments, kR_shapeOf, kR_sx, kR_sy] σ σ_1 := FR_le flσ_1 (by decide)
  refine wp_bd (P := fun rr_ => (0 ≤ rr_.1 ∧ rr_.1 ≤ 2048) ∧ II rr_.2 ∧ FR [kR_ex, kR_ey, kR_firstSegment, kR_numberOf, kR_ringOf, kR_segments, kR_shapeOf, kR_sx, kR_sy] σ rr_.2 ∧ (rr_.1 = σ kR_ringMany 0) ∧ (rr_.2 kR_segments 0 ≤ su_ (σ kR_ringSize) 0 (σ kR_ringMany 0).toNat) ∧ (∀ r, 0 ≤ r → r < σ kR_ringMany 0 → rr_.2 kR_firstSegment r ≤ rr_.2 kR_segments 0) ∧ (∀ i, 0 ≤ i → i < rr_.2 kR_segments 0 → rr_.2 kR_ringOf i < σ kR_ringMany 0)) ?_ ?_
  · have c2 := ii_kR_segments hσ_1 0
    have c3 := sg_val eσ_1
    refine wp_whl (fun ss_ => (0 ≤ ss_.1 ∧ ss_.1 ≤ 2048) ∧ II ss_.2 ∧ FR [kR_ex, kR_ey, kR_firstSegment, kR_numberOf, kR_ringOf, kR_segments, kR_shapeOf, kR_sx, kR_sy] σ ss_.2 ∧ (ss_.1 ≤ σ kR_ringMany 0) ∧ (ss_.2 kR_segments 0 ≤ su_ (σ kR_ringSize) 0 ss_.1.toNat) ∧ (∀ r, 0 ≤ r → r < ss_.1 → ss_.2 kR_firstSegment r ≤ ss_.2 kR_segments 0) ∧ (∀ i, 0 ≤ i → i < ss_.2 kR_segments 0 → ss_.2 kR_ringOf i < σ kR_ringMany 0)) (fun ss_ => (4096 - ss_.1).toNat) ⟨(by (try dsimp only) <;> first | assumption | omega | ((try simp (disch := omega) only [w32_of, w64_of, w8_of]) <;> first | assumption | omega | (split <;> omega) | (refine And.intro ?_ ?_ <;> split <;> omega)) | omega), hσ_1, frσ_1, (by (try dsimp only) <;> first | assumption | omega | ((try simp (disch := omega) only [w32_of, w64_of, w8_of]) <;> first | assumption | omega | (split <;> omega) | (refine And.intro ?_ ?_ <;> split <;> omega)) | omega), (by (try dsimp only) <;> (first | (rw [sg_val eσ_1]; show (0 : Int) ≤ 0; decide) | omega)), (by (try dsimp only) <;> (first | exact gF2 | (intro r a b; omega))), (by (try dsimp only) <;> (first | exact gO2 | (intro i a b; rw [sg_val eσ_1] at b; omega)))⟩ ?_
    rintro ⟨r_2, σ_3⟩ y6
    try dsimp only at y6 ⊢
    obtain ⟨g4, hσ_3, frσ_3, g5, gs, gF, gO⟩ := y6
    have c8 := w32_rng r_2
    have c9 := ii_kR_ringMany hσ_3 0
    have c10 := FR_at frσ_3 (c := kR_ringMany) (by decide) 0
    have c11 := w32_rng (σ_3 kR_ringMany 0)
    refine wp_if (fun c7 => ?_) (fun c7 => ?_)
    · try simp (disch := omega) only [w32_of, w64_of, w8_of, decide_eq_true_eq, decide_eq_false_iff_not, Bool.not_eq_true] at c7
      have c12 := ii_kR_segments hσ_3 0
      refine wp_waI hσ_3 b_kR_firstSegment (by (try dsimp only) <;> first | assumption | omega | ((try simp (disch := omega) only [w32_of, w64_of, w8_of]) <;> first | assumption | omega | (split <;> omega) | (refine And.intro ?_ ?_ <;> split <;> omega)) | omega) (by (try dsimp only) <;> first | assumption | omega | ((try simp (disch := omega) only [w32_of, w64_of, w8_of]) <;> first | assumption | omega | (split <;> omega) | (refine And.intro ?_ ?_ <;> split <;> omega)) | omega) (by (try dsimp only) <;> first | assumption | omega | ((try simp (disch := omega) only [w32_of, w64_of, w8_of]) <;> first | assumption | omega | (split <;> omega) | (refine And.intro ?_ ?_ <;> split <;> omega)) | omega) (fun σ_12 hσ_12 eσ_12 => ?_)
      try simp (disch := omega) only [w32_of, w64_of, w8_of] at eσ_12
      have flσ_12 := FR_sg eσ_12
      have frσ_12 : FR [kR_ex, kR_ey, kR_firstSegment, kR_numberOf, kR_ringOf, kR_segments, kR_shapeOf, kR_sx, kR_sy] σ σ_12 := FR_tr frσ_3 flσ_12 (by decide) (by decide)
      have s12 : σ_12 kR_segments 0 = σ_3 kR_segments 0 := by simp (disch := first | decide | omega) only [eσ_12, sg_at, sg_nc, sg_ni]
      have so12 : ∀ i, σ_12 kR_ringOf i = σ_3 kR_ringOf i := fun i => by simp (disch := first | decide | omega) only [eσ_12, sg_at, sg_nc, sg_ni]
      obtain ⟨sn1, sn2, sn3⟩ := snn r_2 (by omega) (by omega)
      have srz := ii_kR_ringSize hσ r_2
      refine wp_bd (P := fun rr_ => (0 ≤ rr_.1 ∧ rr_.1 ≤ 2047) ∧ II rr_.2 ∧ FR [kR_ex, kR_ey, kR_firstSegment, kR_numberOf, kR_ringOf, kR_segments, kR_shapeOf, kR_sx, kR_sy] σ rr_.2 ∧ (rr_.2 kR_segments 0 ≤ su_ (σ kR_ringSize) 0 (r_2 + 1).toNat) ∧ (∀ r, 0 ≤ r → r < r_2 + 1 → rr_.2 kR_firstSegment r ≤ rr_.2 kR_segments 0) ∧ (∀ i, 0 ≤ i → i < rr_.2 kR_segments 0 → rr_.2 kR_ringOf i < σ kR_ringMany 0)) ?_ ?_
      · have c13 := ii_kR_ringSize hσ r_2
        have c14 := ii_kR_segments hσ_12 0
        have c15 := FR_at flσ_12 (c := kR_segments) (by decide) 0
        refine wp_whl (fun ss_ => (0 ≤ ss_.1 ∧ ss_.1 ≤ 2047) ∧ II ss_.2 ∧ FR [kR_ex, kR_ey, kR_firstSegment, kR_numberOf, kR_ringOf, kR_segments, kR_shapeOf, kR_sx, kR_sy] σ ss_.2 ∧ (ss_.1 = 0 ∨ ss_.1 + 1 ≤ σ kR_ringSize r_2) ∧ (ss_.2 kR_segments 0 ≤ su_ (σ kR_ringSize) 0 r_2.toNat + ss_.1) ∧ (∀ r, 0 ≤ r → r < r_2 + 1 → ss_.2 kR_firstSegment r ≤ ss_.2 kR_segments 0) ∧ (∀ i, 0 ≤ i → i < ss_.2 kR_segments 0 → ss_.2 kR_ringOf i < σ kR_ringMany 0)) (fun ss_ => (4096 - ss_.1).toNat) ⟨(by (try dsimp only) <;> first | assumption | omega | ((try simp (disch := omega) only [w32_of, w64_of, w8_of]) <;> first | assumption | omega | (split <;> omega) | (refine And.intro ?_ ?_ <;> split <;> omega)) | omega), hσ_12, frσ_12, (by (try dsimp only) <;> first | assumption | omega | ((try simp (disch := omega) only [w32_of, w64_of, w8_of]) <;> first | assumption | omega | (split <;> omega) | (refine And.intro ?_ ?_ <;> split <;> omega)) | omega), (by (try dsimp only) <;> (first | omega | (obtain ⟨sa1, -, -⟩ := sa; omega))), (by (try dsimp only) <;> (first | (intro r a b; rw [s12, eσ_12]; by_cases z : r = r_2 <;> first | (rw [z, sg_at]; omega) | (rw [sg_ni z]; exact gF r a (by omega))) | exact gF | (intro r a b; obtain ⟨sa1, -, -⟩ := sa; have := gF r a b; rw [sa1, sf]; omega))), (by (try dsimp only) <;> (first | (intro i a b; rw [s12] at b; rw [so12]; exact gO i a b) | exact gO | (intro i a b; obtain ⟨sa1, ⟨-, -, -, -, sa2, -, -⟩, sa3⟩ := sa; by_cases z : i = σ_15 kR_segments 0 <;> first | (rw [z, sa2]; omega) | (rw [(sa3 i z).2.2.2.2.1]; exact gO i a (by omega)))))⟩ ?_
        rintro ⟨k_14, σ_15⟩ y17
        try dsimp only at y17 ⊢
        obtain ⟨g16, hσ_15, frσ_15, gk, gs, gF, gO⟩ := y17
        refine wp_rdI (by (try dsimp only) <;> first | assumption | omega | ((try simp (disch := omega) only [w32_of, w64_of, w8_of]) <;> first | assumption | omega | (split <;> omega) | (refine And.intro ?_ ?_ <;> split <;> omega)) | omega) (by (try dsimp only) <;> first | assumption | omega | ((try simp (disch := omega) only [w32_of, w64_of, w8_of]) <;> first | assumption | omega | (split <;> omega) | (refine And.intro ?_ ?_ <;> split <;> omega)) | omega) (fun x_23 e_x_23 => ?_)
        have b_x_23 : 0 ≤ x_23 ∧ x_23 ≤ 2048 := by rw [e_x_23]; exact ii_kR_ringSize hσ_15 _
        rw [FR_at frσ_15 (c := kR_ringSize) (by decide)] at e_x_23
        try simp (disch := omega) only [w32_of, w64_of, w8_of] at e_x_23
        have c19 := w32_rng (k_14 + 1)
        have c20 := w32_rng x_23
        refine wp_if (fun c18 => ?_) (fun c18 => ?_)
        · try simp (disch := omega) only [w32_of, w64_of, w8_of, decide_eq_true_eq, decide_eq_false_iff_not, Bool.not_eq_true] at c18
          refine wp_rdI (by (try dsimp only) <;> first | assumption | omega | ((try simp (disch := omega) only [w32_of, w64_of, w8_of]) <;> first | assumption | omega | (split <;> omega) | (refine And.intro ?_ ?_ <;> split <;> omega)) | omega) (by (try dsimp only) <;> first | assumption | omega | ((try simp (disch := omega) only [w32_of, w64_of, w8_of]) <;> first | assumption | omega | (split <;> omega) | (refine And.intro ?_ ?_ <;> split <;> omega)) | omega) (fun x_26 e_x_26 => ?_)
          have b_x_26 : 0 ≤ x_26 ∧ x_26 ≤ 67584 := by rw [e_x_26]; exact ii_kR_ringFrom hσ_15 _
          rw [FR_at frσ_15 (c := kR_ringFrom) (by decide)] at e_x_26
          try simp (disch := omega) only [w32_of, w64_of, w8_of] at e_x_26
          have hrz := w0.1 r_2 (by omega) (by omega)
          refine wp_bdk ?_
          have c21 := w32_rng (x_26 + k_14)
          refine wp_rdI (by (try dsimp only) <;> first | assumption | omega | ((try simp (disch := omega) only [w32_of, w64_of, w8_of]) <;> first | assumption | omega | (split <;> omega) | (refine And.intro ?_ ?_ <;> split <;> omega)) | omega) (by (try dsimp only) <;> first | assumption | omega | ((try simp (disch := omega) only [w32_of, w64_of, w8_of]) <;> first | assumption | omega | (split <;> omega) | (refine And.intro ?_ ?_ <;> split <;> omega)) | omega) (fun x_48 e_x_48 => ?_)
          have b_x_48 : (-1000000000) ≤ x_48 ∧ x_48 ≤ 1000000000 := by rw [e_x_48]; exact ii_kR_xs hσ_15 _
          rw [FR_at frσ_15 (c := kR_xs) (by decide)] at e_x_48
          try simp (disch := omega) only [w32_of, w64_of, w8_of] at e_x_48
          have c22 := w32_rng ((x_26 + k_14) + 1)
          refine wp_rdI (by (try dsimp only) <;> first | assumption | omega | ((try simp (disch := omega) only [w32_of, w64_of, w8_of]) <;> first | assumption | omega | (split <;> omega) | (refine And.intro ?_ ?_ <;> split <;> omega)) | omega) (by (try dsimp only) <;> first | assumption | omega | ((try simp (disch := omega) only [w32_of, w64_of, w8_of]) <;> first | assumption | omega | (split <;> omega) | (refine And.intro ?_ ?_ <;> split <;> omega)) | omega) (fun x_50 e_x_50 => ?_)
          have b_x_50 : (-1000000000) ≤ x_50 ∧ x_50 ≤ 1000000000 := by rw [e_x_50]; exact ii_kR_xs hσ_15 _
          rw [FR_at frσ_15 (c := kR_xs) (by decide)] at e_x_50
          try simp (disch := omega) only [w32_of, w64_of, w8_of] at e_x_50
          have c24 := w32_rng x_48
          have c25 := w32_rng x_50
          refine wp_if (fun c23 => ?_) (fun c23 => ?_)
          · try simp (disch := omega) only [w32_of, w64_of, w8_of, decide_eq_true_eq, decide_eq_false_iff_not, Bool.not_eq_true] at c23
            have c26 := ii_kR_segments hσ_15 0
            refine wp_bd (v_segment (σ := σ_15) (f := (x_26 + k_14)) (t := ((x_26 + k_14) + 1)) (r := r_2) (n := k_14) (s := 0) hσ_15 (by (try dsimp only) <;> first | assumption | omega | ((try simp (disch := omega) only [w32_of, w64_of, w8_of]) <;> first | assumption | omega | (split <;> omega) | (refine And.intro ?_ ?_ <;> split <;> omega)) | omega) (by (try dsimp only) <;> first | assumption | omega | ((try simp (disch := omega) only [w32_of, w64_of, w8_of]) <;> first | assumption | omega | (split <;> omega) | (refine And.intro ?_ ?_ <;> split <;> omega)) | omega) (by (try dsimp only) <;> first | assumption | omega | ((try simp (disch := omega) only [w32_of, w64_of, w8_of]) <;> first | assumption | omega | (split <;> omega) | (refine And.intro ?_ ?_ <;> split <;> omega)) | omega) (by (try dsimp only) <;> first | assumption | omega | ((try simp (disch := omega) only [w32_of, w64_of, w8_of]) <;> first | assumption | omega | (split <;> omega) | (refine And.intro ?_ ?_ <;> split <;> omega)) | omega) (by (try dsimp only) <;> first | assumption | omega | ((try simp (disch := omega) only [w32_of, w64_of, w8_of]) <;> first | assumption | omega | (split <;> omega) | (refine And.intro ?_ ?_ <;> split <;> omega)) | omega) (by (try dsimp only) <;> first | assumption | omega | ((try simp (disch := omega) only [w32_of, w64_of, w8_of]) <;> first | assumption | omega | (split <;> omega) | (refine And.intro ?_ ?_ <;> split <;> omega)) | omega) (by (try dsimp only) <;> first | assumption | omega | ((try simp (disch := omega) only [w32_of, w64_of, w8_of]) <;> first | assumption | omega | (split <;> omega) | (refine And.intro ?_ ?_ <;> split <;> omega)) | omega) (by (try dsimp only) <;> first | assumption | omega | ((try simp (disch := omega) only [w32_of, w64_of, w8_of]) <;> first | assumption | omega | (split <;> omega) | (refine And.intro ?_ ?_ <;> split <;> omega)) | omega) (by (try dsimp only) <;> first | assumption | omega | ((try simp (disch := omega) only [w32_of, w64_of, w8_of]) <;> first | assumption | omega | (split <;> omega) | (refine And.intro ?_ ?_ <;> split <;> omega)) | omega) (by (try dsimp only) <;> first | assumption | omega | ((try simp (disch := omega) only [w32_of, w64_of, w8_of]) <;> first | assumption | omega | (split <;> omega) | (refine And.intro ?_ ?_ <;> split <;> omega)) | omega) (by (try dsimp only) <;> first | assumption | omega | ((try simp (disch := omega) only [w32_of, w64_of, w8_of]) <;> first | assumption | omega | (split <;> omega) | (refine And.intro ?_ ?_ <;> split <;> omega)) | omega)) ?_
            rintro σ_54 - ⟨hσ_54, flσ_54, sa⟩
            have frσ_54 : FR [kR_ex, kR_ey, kR_firstSegment, kR_numberOf, kR_ringOf, kR_segments, kR_shapeOf, kR_sx, kR_sy] σ σ_54 := FR_tr frσ_15 flσ_54 (by decide) (by decide)
            try simp (disch := omega) only [w32_of, w64_of, w8_of] at sa
            have sf : ∀ r, σ_54 kR_firstSegment r = σ_15 kR_firstSegment r := FR_at flσ_54 (by decide)
            refine wp_somek ?_
            try dsimp only
            have c27 := ii_kR_segments hσ_54 0
            exact wp_some (x_inl ⟨⟨(by (try dsimp only) <;> first | assumption | omega | ((try simp (disch := omega) only [w32_of, w64_of, w8_of]) <;> first | assumption | omega | (split <;> omega) | (refine And.intro ?_ ?_ <;> split <;> omega)) | omega), hσ_54, frσ_54, (by (try dsimp only) <;> first | assumption | omega | ((try simp (disch := omega) only [w32_of, w64_of, w8_of]) <;> first | assumption | omega | (split <;> omega) | (refine And.intro ?_ ?_ <;> split <;> omega)) | omega), (by (try dsimp only) <;> (first | omega | (obtain ⟨sa1, -, -⟩ := sa; omega))), (by (try dsimp only) <;> (first | (intro r a b; rw [s12, eσ_12]; by_cases z : r = r_2 <;> first | (rw [z, sg_at]; omega) | (rw [sg_ni z]; exact gF r a (by omega))) | exact gF | (intro r a b; obtain ⟨sa1, -, -⟩ := sa; have := gF r a b; rw [sa1, sf]; omega))), (by (try dsimp only) <;> (first | (intro i a b; rw [s12] at b; rw [so12]; exact gO i a b) | exact gO | (intro i a b; obtain ⟨sa1, ⟨-, -, -, -, sa2, -, -⟩, sa3⟩ := sa; by_cases z : i = σ_15 kR_segments 0 <;> first | (rw [z, sa2]; omega) | (rw [(sa3 i z).2.2.2.2.1]; exact gO i a (by omega)))))⟩, (by (try dsimp only) <;> first | assumption | omega | ((try simp (disch := omega) only [w32_of, w64_of, w8_of]) <;> first | assumption | omega | (split <;> omega) | (refine And.intro ?_ ?_ <;> split <;> omega)) | omega)⟩)
          · try simp (disch := omega) only [w32_of, w64_of, w8_of, decide_eq_true_eq, decide_eq_false_iff_not, Bool.not_eq_true] at c23
            refine wp_rdI (by (try dsimp only) <;> first | assumption | omega | ((try simp (disch := omega) only [w32_of, w64_of, w8_of]) <;> first | assumption | omega | (split <;> omega) | (refine And.intro ?_ ?_ <;> split <;> omega)) | omega) (by (try dsimp only) <;> first | assumption | omega | ((try simp (disch := omega) only [w32_of, w64_of, w8_of]) <;> first | assumption | omega | (split <;> omega) | (refine And.intro ?_ ?_ <;> split <;> omega)) | omega) (fun x_56 e_x_56 => ?_)
            have b_x_56 : (-1000000000) ≤ x_56 ∧ x_56 ≤ 1000000000 := by rw [e_x_56]; exact ii_kR_ys hσ_15 _
            rw [FR_at frσ_15 (c := kR_ys) (by decide)] at e_x_56
            try simp (disch := omega) only [w32_of, w64_of, w8_of] at e_x_56
            refine wp_rdI (by (try dsimp only) <;> first | assumption | omega | ((try simp (disch := omega) only [w32_of, w64_of, w8_of]) <;> first | assumption | omega | (split <;> omega) | (refine And.intro ?_ ?_ <;> split <;> omega)) | omega) (by (try dsimp only) <;> first | assumption | omega | ((try simp (disch := omega) only [w32_of, w64_of, w8_of]) <;> first | assumption | omega | (split <;> omega) | (refine And.intro ?_ ?_ <;> split <;> omega)) | omega) (fun x_58 e_x_58 => ?_)
            have b_x_58 : (-1000000000) ≤ x_58 ∧ x_58 ≤ 1000000000 := by rw [e_x_58]; exact ii_kR_ys hσ_15 _
            rw [FR_at frσ_15 (c := kR_ys) (by decide)] at e_x_58
            try simp (disch := omega) only [w32_of, w64_of, w8_of] at e_x_58
            have c29 := w32_rng x_56
            have c30 := w32_rng x_58
            refine wp_if (fun c28 => ?_) (fun c28 => ?_)
            · try simp (disch := omega) only [w32_of, w64_of, w8_of, decide_eq_true_eq, decide_eq_false_iff_not, Bool.not_eq_true] at c28
              have c31 := ii_kR_segments hσ_15 0
              refine wp_bd (v_segment (σ := σ_15) (f := (x_26 + k_14)) (t := ((x_26 + k_14) + 1)) (r := r_2) (n := k_14) (s := 0) hσ_15 (by (try dsimp only) <;> first | assumption | omega | ((try simp (disch := omega) only [w32_of, w64_of, w8_of]) <;> first | assumption | omega | (split <;> omega) | (refine And.intro ?_ ?_ <;> split <;> omega)) | omega) (by (try dsimp only) <;> first | assumption | omega | ((try simp (disch := omega) only [w32_of, w64_of, w8_of]) <;> first | assumption | omega | (split <;> omega) | (refine And.intro ?_ ?_ <;> split <;> omega)) | omega) (by (try dsimp only) <;> first | assumption | omega | ((try simp (disch := omega) only [w32_of, w64_of, w8_of]) <;> first | assumption | omega | (split <;> omega) | (refine And.intro ?_ ?_ <;> split <;> omega)) | omega) (by (try dsimp only) <;> first | assumption | omega | ((try simp (disch := omega) only [w32_of, w64_of, w8_of]) <;> first | assumption | omega | (split <;> omega) | (refine And.intro ?_ ?_ <;> split <;> omega)) | omega) (by (try dsimp only) <;> first | assumption | omega | ((try simp (disch := omega) only [w32_of, w64_of, w8_of]) <;> first | assumption | omega | (split <;> omega) | (refine And.intro ?_ ?_ <;> split <;> omega)) | omega) (by (try dsimp only) <;> first | assumption | omega | ((try simp (disch := omega) only [w32_of, w64_of, w8_of]) <;> first | assumption | omega | (split <;> omega) | (refine And.intro ?_ ?_ <;> split <;> omega)) | omega) (by (try dsimp only) <;> first | assumption | omega | ((try simp (disch := omega) only [w32_of, w64_of, w8_of]) <;> first | assumption | omega | (split <;> omega) | (refine And.intro ?_ ?_ <;> split <;> omega)) | omega) (by (try dsimp only) <;> first | assumption | omega | ((try simp (disch := omega) only [w32_of, w64_of, w8_of]) <;> first | assumption | omega | (split <;> omega) | (refine And.intro ?_ ?_ <;> split <;> omega)) | omega) (by (try dsimp only) <;> first | assumption | omega | ((try simp (disch := omega) only [w32_of, w64_of, w8_of]) <;> first | assumption | omega | (split <;> omega) | (refine And.intro ?_ ?_ <;> split <;> omega)) | omega) (by (try dsimp only) <;> first | assumption | omega | ((try simp (disch := omega) only [w32_of, w64_of, w8_of]) <;> first | assumption | omega | (split <;> omega) | (refine And.intro ?_ ?_ <;> split <;> omega)) | omega) (by (try dsimp only) <;> first | assumption | omega | ((try simp (disch := omega) only [w32_of, w64_of, w8_of]) <;> first | assumption | omega | (split <;> omega) | (refine And.intro ?_ ?_ <;> split <;> omega)) | omega)) ?_
              rintro σ_62 - ⟨hσ_62, flσ_62, sa⟩
              have frσ_62 : FR [kR_ex, kR_ey, kR_firstSegment, kR_numberOf, kR_ringOf, kR_segments, kR_shapeOf, kR_sx, kR_sy] σ σ_62 := FR_tr frσ_15 flσ_62 (by decide) (by decide)
              try simp (disch := omega) only [w32_of, w64_of, w8_of] at sa
              have sf : ∀ r, σ_62 kR_firstSegment r = σ_15 kR_firstSegment r := FR_at flσ_62 (by decide)
              refine wp_somek ?_
              try dsimp only
              have c32 := ii_kR_segments hσ_62 0
              exact wp_some (x_inl ⟨⟨(by (try dsimp only) <;> first | assumption | omega | ((try simp (disch := omega) only [w32_of, w64_of, w8_of]) <;> first | assumption | omega | (split <;> omega) | (refine And.intro ?_ ?_ <;> split <;> omega)) | omega), hσ_62, frσ_62, (by (try dsimp only) <;> first | assumption | omega | ((try simp (disch := omega) only [w32_of, w64_of, w8_of]) <;> first | assumption | omega | (split <;> omega) | (refine And.intro ?_ ?_ <;> split <;> omega)) | omega), (by (try dsimp only) <;> (first | omega | (obtain ⟨sa1, -, -⟩ := sa; omega))), (by (try dsimp only) <;> (first | (intro r a b; rw [s12, eσ_12]; by_cases z : r = r_2 <;> first | (rw [z, sg_at]; omega) | (rw [sg_ni z]; exact gF r a (by omega))) | exact gF | (intro r a b; obtain ⟨sa1, -, -⟩ := sa; have := gF r a b; rw [sa1, sf]; omega))), (by (try dsimp only) <;> (first | (intro i a b; rw [s12] at b; rw [so12]; exact gO i a b) | exact gO | (intro i a b; obtain ⟨sa1, ⟨-, -, -, -, sa2, -, -⟩, sa3⟩ := sa; by_cases z : i = σ_15 kR_segments 0 <;> first | (rw [z, sa2]; omega) | (rw [(sa3 i z).2.2.2.2.1]; exact gO i a (by omega)))))⟩, (by (try dsimp only) <;> first | assumption | omega | ((try simp (disch := omega) only [w32_of, w64_of, w8_of]) <;> first | assumption | omega | (split <;> omega) | (refine And.intro ?_ ?_ <;> split <;> omega)) | omega)⟩)
            · try simp (disch := omega) only [w32_of, w64_of, w8_of, decide_eq_true_eq, decide_eq_false_iff_not, Bool.not_eq_true] at c28
              refine wp_somek ?_
              try dsimp only
              have c33 := ii_kR_segments hσ_15 0
              exact wp_some (x_inl ⟨⟨(by (try dsimp only) <;> first | assumption | omega | ((try simp (disch := omega) only [w32_of, w64_of, w8_of]) <;> first | assumption | omega | (split <;> omega) | (refine And.intro ?_ ?_ <;> split <;> omega)) | omega), hσ_15, frσ_15, (by (try dsimp only) <;> first | assumption | omega | ((try simp (disch := omega) only [w32_of, w64_of, w8_of]) <;> first | assumption | omega | (split <;> omega) | (refine And.intro ?_ ?_ <;> split <;> omega)) | omega), (by (try dsimp only) <;> (first | omega | (obtain ⟨sa1, -, -⟩ := sa; omega))), (by (try dsimp only) <;> (first | (intro r a b; rw [s12, eσ_12]; by_cases z : r = r_2 <;> first | (rw [z, sg_at]; omega) | (rw [sg_ni z]; exact gF r a (by omega))) | exact gF | (intro r a b; obtain ⟨sa1, -, -⟩ := sa; have := gF r a b; rw [sa1, sf]; omega))), (by (try dsimp only) <;> (first | (intro i a b; rw [s12] at b; rw [so12]; exact gO i a b) | exact gO | (intro i a b; obtain ⟨sa1, ⟨-, -, -, -, sa2, -, -⟩, sa3⟩ := sa; by_cases z : i = σ_15 kR_segments 0 <;> first | (rw [z, sa2]; omega) | (rw [(sa3 i z).2.2.2.2.1]; exact gO i a (by omega)))))⟩, (by (try dsimp only) <;> first | assumption | omega | ((try simp (disch := omega) only [w32_of, w64_of, w8_of]) <;> first | assumption | omega | (split <;> omega) | (refine And.intro ?_ ?_ <;> split <;> omega)) | omega)⟩)
        · try simp (disch := omega) only [w32_of, w64_of, w8_of, decide_eq_true_eq, decide_eq_false_iff_not, Bool.not_eq_true] at c18
          have c34 := ii_kR_segments hσ_15 0
          exact wp_some (x_inr ⟨(by (try dsimp only) <;> first | assumption | omega | ((try simp (disch := omega) only [w32_of, w64_of, w8_of]) <;> first | assumption | omega | (split <;> omega) | (refine And.intro ?_ ?_ <;> split <;> omega)) | omega), hσ_15, frσ_15, (by (try dsimp only) <;> first | assumption | omega | ((try simp (disch := omega) only [w32_of, w64_of, w8_of]) <;> first | assumption | omega | (split <;> omega) | (refine And.intro ?_ ?_ <;> split <;> omega)) | omega), (by (try dsimp only) <;> (exact gF)), (by (try dsimp only) <;> (exact gO))⟩)
      rintro ⟨k_69, σ_70⟩ _ y36
      try dsimp only at y36 ⊢
      obtain ⟨g35, hσ_70, frσ_70, gs2, gF2, gO2⟩ := y36
      have c37 := ii_kR_segments hσ_70 0
      exact wp_some (x_inl ⟨⟨(by (try dsimp only) <;> first | assumption | omega | ((try simp (disch := omega) only [w32_of, w64_of, w8_of]) <;> first | assumption | omega | (split <;> omega) | (refine And.intro ?_ ?_ <;> split <;> omega)) | omega), hσ_70, frσ_70, (by (try dsimp only) <;> first | assumption | omega | ((try simp (disch := omega) only [w32_of, w64_of, w8_of]) <;> first | assumption | omega | (split <;> omega) | (refine And.intro ?_ ?_ <;> split <;> omega)) | omega), (by (try dsimp only) <;> (first | (rw [sg_val eσ_1]; show (0 : Int) ≤ 0; decide) | omega)), (by (try dsimp only) <;> (first | exact gF2 | (intro r a b; omega))), (by (try dsimp only) <;> (first | exact gO2 | (intro i a b; rw [sg_val eσ_1] at b; omega)))⟩, (by (try dsimp only) <;> first | assumption | omega | ((try simp (disch := omega) only [w32_of, w64_of, w8_of]) <;> first | assumption | omega | (split <;> omega) | (refine And.intro ?_ ?_ <;> split <;> omega)) | omega)⟩)
    · try simp (disch := omega) only [w32_of, w64_of, w8_of, decide_eq_true_eq, decide_eq_false_iff_not, Bool.not_eq_true] at c7
      have c38 := ii_kR_segments hσ_3 0
      exact wp_some (x_inr ⟨(by (try dsimp only) <;> first | assumption | omega | ((try simp (disch := omega) only [w32_of, w64_of, w8_of]) <;> first | assumption | omega | (split <;> omega) | (refine And.intro ?_ ?_ <;> split <;> omega)) | omega), hσ_3, frσ_3, (by (try dsimp only) <;> first | assumption | omega | ((try simp (disch := omega) only [w32_of, w64_of, w8_of]) <;> first | assumption | omega | (split <;> omega) | (refine And.intro ?_ ?_ <;> split <;> omega)) | omega), (by (try dsimp only) <;> (rw [show σ kR_ringMany 0 = r_2 by omega]; exact gs)), (by (try dsimp only) <;> (exact fun r a b => gF r a (by omega))), (by (try dsimp only) <;> (exact gO))⟩)
  rintro ⟨r_74, σ_75⟩ _ y41
  try dsimp only at y41 ⊢
  obtain ⟨g39, hσ_75, frσ_75, g40, gs, gF, gO⟩ := y41
  have c42 := ii_kR_segments hσ_75 0
  have c43 := ii_kR_ringMany hσ_75 0
  have c44 := FR_at frσ_75 (c := kR_ringMany) (by decide) 0
  have c45 := w32_rng (σ_75 kR_ringMany 0)
  refine wp_waI hσ_75 b_kR_firstSegment (by (try dsimp only) <;> first | assumption | omega | ((try simp (disch := omega) only [w32_of, w64_of, w8_of]) <;> first | assumption | omega | (split <;> omega) | (refine And.intro ?_ ?_ <;> split <;> omega)) | omega) (by (try dsimp only) <;> first | assumption | omega | ((try simp (disch := omega) only [w32_of, w64_of, w8_of]) <;> first | assumption | omega | (split <;> omega) | (refine And.intro ?_ ?_ <;> split <;> omega)) | omega) (by (try dsimp only) <;> first | assumption | omega | ((try simp (disch := omega) only [w32_of, w64_of, w8_of]) <;> first | assumption | omega | (split <;> omega) | (refine And.intro ?_ ?_ <;> split <;> omega)) | omega) (fun σ_76 hσ_76 eσ_76 => ?_)
  try simp (disch := omega) only [w32_of, w64_of, w8_of] at eσ_76
  have flσ_76 := FR_sg eσ_76
  have frσ_76 : FR [kR_ex, kR_ey, kR_firstSegment, kR_numberOf, kR_ringOf, kR_segments, kR_shapeOf, kR_sx, kR_sy] σ σ_76 := FR_tr frσ_75 flσ_76 (by decide) (by decide)
  have hM : σ_75 kR_ringMany 0 = σ kR_ringMany 0 := FR_at frσ_75 (by decide) 0
  rw [hM] at eσ_76
  have m76 : σ_76 kR_segments 0 = σ_75 kR_segments 0 := by simp (disch := first | decide | omega) only [eσ_76, sg_at, sg_nc, sg_ni]
  have n76 : σ_76 kR_ringMany 0 = σ kR_ringMany 0 := FR_at frσ_76 (by decide) 0
  have jt : JTb σ_76 := by
    refine ⟨GTb_f frσ_76 (by decide) w0, by omega, by omega, fun r a b => ?_, fun i a b => ?_⟩
    · rw [m76, eσ_76]
      by_cases z : r = σ kR_ringMany 0
      · rw [z, sg_at]; exact Int.le_refl _
      · rw [sg_ni z]; exact gF r a (by omega)
    · rw [n76]; rw [m76] at b
      rw [show σ_76 kR_ringOf i = σ_75 kR_ringOf i by simp (disch := first | decide | omega) only [eσ_76, sg_at, sg_nc, sg_ni]]; exact gO i a b
  exact wp_some ⟨hσ_76, frσ_76, (by (try dsimp only) <;> (exact jt))⟩
theorem s_R_different {σ : SG} {from_0 : Int} {n_0 : Int} (hσ : II σ) (qn_0 : 0 ≤ n_0 ∧ n_0 ≤ 2147483647) (w0 : 0 ≤ from_0) (w1 : from_0 + n_0 ≤ 67584) : wp_ (fR_different σ from_0 n_0) (fun zz_ => (0 ≤ zz_ ∧ zz_ ≤ 3)) := by
  unfold fR_different
  refine wp_bx (P := fun rr_ => ((-2147483648) ≤ rr_.1 ∧ rr_.1 ≤ 2147483647) ∧ (True)) ?_ ?_
  · refine wp_whl (fun ss_ => ((-2147483648) ≤ ss_.1 ∧ ss_.1 ≤ 2147483647) ∧ (from_0 ≤ ss_.2) ∧ (ss_.2 ≤ from_0 + n_0) ∧ (ss_.1 = -1 ∨ (0 ≤ ss_.1 ∧ ss_.1 < from_0 + n_0))) (fun ss_ => (from_0 + n_0 - ss_.2).toNat) ⟨(by (try dsimp only) <;> first | assumption | omega | ((try simp (disch := omega) only [w32_of, w64_of, w8_of]) <;> first | assumption | omega | (split <;> omega) | (refine And.intro ?_ ?_ <;> split <;> omega)) | omega), (by (try dsimp only) <;> first | assumption | omega | ((try simp (disch := omega) only [w32_of, w64_of, w8_of]) <;> first | assumption | omega | (split <;> omega) | (refine And.intro ?_ ?_ <;> split <;> omega)) | omega), (by (try dsimp only) <;> first | assumption | omega | ((try simp (disch := omega) only [w32_of, w64_of, w8_of]) <;> first | assumption | omega | (split <;> omega) | (refine And.intro ?_ ?_ <;> split <;> omega)) | omega), (by (try dsimp only) <;> first | assumption | omega | ((try simp (disch := omega) only [w32_of, w64_of, w8_of]) <;> first | assumption | omega | (split <;> omega) | (refine And.intro ?_ ?_ <;> split <;> omega)) | omega)⟩ ?_
    rintro ⟨second_1, k_2⟩ y5
    try dsimp only at y5 ⊢
    obtain ⟨g1, g2, g3, g4⟩ := y5
    have c7 := w32_rng k_2
    have c8 := w32_rng (from_0 + n_0)
    refine wp_if (fun c6 => ?_) (fun c6 => ?_)
    · try simp (disch := omega) only [w32_of, w64_of, w8_of, decide_eq_true_eq, decide_eq_false_iff_not, Bool.not_eq_true] at c6
      refine wp_bd (v_isSame (τ := σ) (p := k_2) (q := from_0) hσ (by (try dsimp only) <;> first | assumption | omega | ((try simp (disch := omega) only [w32_of, w64_of, w8_of]) <;> first | assumption | omega | (split <;> omega) | (refine And.intro ?_ ?_ <;> split <;> omega)) | omega) (by (try dsimp only) <;> first | assumption | omega | ((try simp (disch := omega) only [w32_of, w64_of, w8_of]) <;> first | assumption | omega | (split <;> omega) | (refine And.intro ?_ ?_ <;> split <;> omega)) | omega) (by (try dsimp only) <;> first | assumption | omega | ((try simp (disch := omega) only [w32_of, w64_of, w8_of]) <;> first | assumption | omega | (split <;> omega) | (refine And.intro ?_ ?_ <;> split <;> omega)) | omega) (by (try dsimp only) <;> first | assumption | omega | ((try simp (disch := omega) only [w32_of, w64_of, w8_of]) <;> first | assumption | omega | (split <;> omega) | (refine And.intro ?_ ?_ <;> split <;> omega)) | omega)) ?_
      rintro x_12 - g9
      have c10 := ii_kR_xs hσ k_2
      have c11 := ii_kR_xs hσ from_0
      have c12 := ii_kR_ys hσ k_2
      have c13 := ii_kR_ys hσ from_0
      try simp (disch := omega) only [w32_of, w64_of, w8_of] at g9
      refine wp_if (fun c14 => ?_) (fun c14 => ?_)
      · have k15 := g9.mp c14
        try simp (disch := omega) only [w32_of, w64_of, w8_of] at k15
        try simp (disch := omega) only [w32_of, w64_of, w8_of, decide_eq_true_eq, decide_eq_false_iff_not, Bool.not_eq_true] at c14
        exact wp_some (x_inl ⟨⟨(by (try dsimp only) <;> first | assumption | omega | ((try simp (disch := omega) only [w32_of, w64_of, w8_of]) <;> first | assumption | omega | (split <;> omega) | (refine And.intro ?_ ?_ <;> split <;> omega)) | omega), (by (try dsimp only) <;> first | assumption | omega | ((try simp (disch := omega) only [w32_of, w64_of, w8_of]) <;> first | assumption | omega | (split <;> omega) | (refine And.intro ?_ ?_ <;> split <;> omega)) | omega), (by (try dsimp only) <;> first | assumption | omega | ((try simp (disch := omega) only [w32_of, w64_of, w8_of]) <;> first | assumption | omega | (split <;> omega) | (refine And.intro ?_ ?_ <;> split <;> omega)) | omega), (by (try dsimp only) <;> first | assumption | omega | ((try simp (disch := omega) only [w32_of, w64_of, w8_of]) <;> first | assumption | omega | (split <;> omega) | (refine And.intro ?_ ?_ <;> split <;> omega)) | omega)⟩, (by (try dsimp only) <;> first | assumption | omega | ((try simp (disch := omega) only [w32_of, w64_of, w8_of]) <;> first | assumption | omega | (split <;> omega) | (refine And.intro ?_ ?_ <;> split <;> omega)) | omega)⟩)
      · have k16 := fun q => c14 (g9.mpr q)
        try simp (disch := omega) only [w32_of, w64_of, w8_of] at k16
        try simp (disch := omega) only [w32_of, w64_of, w8_of, decide_eq_true_eq, decide_eq_false_iff_not, Bool.not_eq_true] at c14
        refine wp_bx (P := fun rr_ => ((-2147483648) ≤ rr_ ∧ rr_ ≤ 2147483647) ∧ (rr_ = k_2 ∨ rr_ = second_1)) ?_ ?_
        · have c18 := w32_rng second_1
          refine wp_if (fun c17 => ?_) (fun c17 => ?_)
          · try simp (disch := omega) only [w32_of, w64_of, w8_of, decide_eq_true_eq, decide_eq_false_iff_not, Bool.not_eq_true] at c17
            exact wp_some (x_inl ⟨(by (try dsimp only) <;> first | assumption | omega | ((try simp (disch := omega) only [w32_of, w64_of, w8_of]) <;> first | assumption | omega | (split <;> omega) | (refine And.intro ?_ ?_ <;> split <;> omega)) | omega), (by (try dsimp only) <;> first | assumption | omega | ((try simp (disch := omega) only [w32_of, w64_of, w8_of]) <;> first | assumption | omega | (split <;> omega) | (refine And.intro ?_ ?_ <;> split <;> omega)) | omega)⟩)
          · try simp (disch := omega) only [w32_of, w64_of, w8_of, decide_eq_true_eq, decide_eq_false_iff_not, Bool.not_eq_true] at c17
            refine wp_bd (v_isSame (τ := σ) (p := k_2) (q := second_1) hσ (by (try dsimp only) <;> first | assumption | omega | ((try simp (disch := omega) only [w32_of, w64_of, w8_of]) <;> first | assumption | omega | (split <;> omega) | (refine And.intro ?_ ?_ <;> split <;> omega)) | omega) (by (try dsimp only) <;> first | assumption | omega | ((try simp (disch := omega) only [w32_of, w64_of, w8_of]) <;> first | assumption | omega | (split <;> omega) | (refine And.intro ?_ ?_ <;> split <;> omega)) | omega) (by (try dsimp only) <;> first | assumption | omega | ((try simp (disch := omega) only [w32_of, w64_of, w8_of]) <;> first | assumption | omega | (split <;> omega) | (refine And.intro ?_ ?_ <;> split <;> omega)) | omega) (by (try dsimp only) <;> first | assumption | omega | ((try simp (disch := omega) only [w32_of, w64_of, w8_of]) <;> first | assumption | omega | (split <;> omega) | (refine And.intro ?_ ?_ <;> split <;> omega)) | omega)) ?_
            rintro x_22 - g19
            have c20 := ii_kR_xs hσ second_1
            have c21 := ii_kR_ys hσ second_1
            try simp (disch := omega) only [w32_of, w64_of, w8_of] at g19
            refine wp_if (fun c22 => ?_) (fun c22 => ?_)
            · have k23 := g19.mp c22
              try simp (disch := omega) only [w32_of, w64_of, w8_of] at k23
              try simp (disch := omega) only [w32_of, w64_of, w8_of, decide_eq_true_eq, decide_eq_false_iff_not, Bool.not_eq_true] at c22
              exact wp_some (x_inl ⟨(by (try dsimp only) <;> first | assumption | omega | ((try simp (disch := omega) only [w32_of, w64_of, w8_of]) <;> first | assumption | omega | (split <;> omega) | (refine And.intro ?_ ?_ <;> split <;> omega)) | omega), (by (try dsimp only) <;> first | assumption | omega | ((try simp (disch := omega) only [w32_of, w64_of, w8_of]) <;> first | assumption | omega | (split <;> omega) | (refine And.intro ?_ ?_ <;> split <;> omega)) | omega)⟩)
            · have k24 := fun q => c22 (g19.mpr q)
              try simp (disch := omega) only [w32_of, w64_of, w8_of] at k24
              try simp (disch := omega) only [w32_of, w64_of, w8_of, decide_eq_true_eq, decide_eq_false_iff_not, Bool.not_eq_true] at c22
              exact wp_some (x_inr (x_inr (x_inr (by (try dsimp only) <;> first | assumption | omega | ((try simp (disch := omega) only [w32_of, w64_of, w8_of]) <;> first | assumption | omega | (split <;> omega) | (refine And.intro ?_ ?_ <;> split <;> omega)) | omega))))
        rintro second_25 ⟨g25, g26⟩
        exact wp_some (x_inl ⟨⟨(by (try dsimp only) <;> first | assumption | omega | ((try simp (disch := omega) only [w32_of, w64_of, w8_of]) <;> first | assumption | omega | (split <;> omega) | (refine And.intro ?_ ?_ <;> split <;> omega)) | omega), (by (try dsimp only) <;> first | assumption | omega | ((try simp (disch := omega) only [w32_of, w64_of, w8_of]) <;> first | assumption | omega | (split <;> omega) | (refine And.intro ?_ ?_ <;> split <;> omega)) | omega), (by (try dsimp only) <;> first | assumption | omega | ((try simp (disch := omega) only [w32_of, w64_of, w8_of]) <;> first | assumption | omega | (split <;> omega) | (refine And.intro ?_ ?_ <;> split <;> omega)) | omega), (by (try dsimp only) <;> first | assumption | omega | ((try simp (disch := omega) only [w32_of, w64_of, w8_of]) <;> first | assumption | omega | (split <;> omega) | (refine And.intro ?_ ?_ <;> split <;> omega)) | omega)⟩, (by (try dsimp only) <;> first | assumption | omega | ((try simp (disch := omega) only [w32_of, w64_of, w8_of]) <;> first | assumption | omega | (split <;> omega) | (refine And.intro ?_ ?_ <;> split <;> omega)) | omega)⟩)
    · try simp (disch := omega) only [w32_of, w64_of, w8_of, decide_eq_true_eq, decide_eq_false_iff_not, Bool.not_eq_true] at c6
      exact wp_some (x_inr (x_inl ⟨(by (try dsimp only) <;> first | assumption | omega | ((try simp (disch := omega) only [w32_of, w64_of, w8_of]) <;> first | assumption | omega | (split <;> omega) | (refine And.intro ?_ ?_ <;> split <;> omega)) | omega), (by (try dsimp only) <;> first | assumption | omega | ((try simp (disch := omega) only [w32_of, w64_of, w8_of]) <;> first | assumption | omega | (split <;> omega) | (refine And.intro ?_ ?_ <;> split <;> omega)) | omega)⟩))
  rintro ⟨second_29, k_30⟩ y29
  try dsimp only at y29 ⊢
  obtain ⟨g27, g28⟩ := y29
  have c30 := w32_rng n_0
  have c31 := w32_rng second_29
  exact wp_some (by (try dsimp only) <;> first | assumption | omega | ((try simp (disch := omega) only [w32_of, w64_of, w8_of]) <;> first | assumption | omega | (split <;> omega) | (refine And.intro ?_ ?_ <;> split <;> omega)) | omega)
theorem s_R_following {σ : SG} {i_0 : Int} (hσ : II σ) (qi_0 : 0 ≤ i_0 ∧ i_0 ≤ 4199) (w0 : JTb σ) (w1 : i_0 < σ kR_segments 0) : wp_ (fR_following σ i_0) (fun zz_ => (0 ≤ zz_ ∧ zz_ ≤ σ kR_segments 0)) := by
  unfold fR_following
  have c1 := ii_kR_segments hσ 0
  have w0c := w0
  obtain ⟨jG, jR, jS, jF, jO⟩ := w0c
  have jR0 := ii_kR_ringMany hσ 0
  have jS0 := ii_kR_segments hσ 0
  have jo := jO i_0 (by omega) (by omega)
  have jo0 := ii_kR_ringOf hσ i_0
  have jf := jF (σ kR_ringOf i_0) (by omega) (by omega)
  have c2 := w32_rng i_0
  refine wp_rdI (by (try dsimp only) <;> first | assumption | omega | ((try simp (disch := omega) only [w32_of, w64_of, w8_of]) <;> first | assumption | omega | (split <;> omega) | (refine And.intro ?_ ?_ <;> split <;> omega)) | omega) (by (try dsimp only) <;> first | assumption | omega | ((try simp (disch := omega) only [w32_of, w64_of, w8_of]) <;> first | assumption | omega | (split <;> omega) | (refine And.intro ?_ ?_ <;> split <;> omega)) | omega) (fun x_1 e_x_1 => ?_)
  have b_x_1 : 0 ≤ x_1 ∧ x_1 ≤ 2048 := by rw [e_x_1]; exact ii_kR_ringOf hσ _
  try simp (disch := omega) only [w32_of, w64_of, w8_of] at e_x_1
  rw [← e_x_1] at jf jo
  refine wp_bdk ?_
  have c3 := w32_rng (x_1 + 1)
  refine wp_rdI (by (try dsimp only) <;> first | assumption | omega | ((try simp (disch := omega) only [w32_of, w64_of, w8_of]) <;> first | assumption | omega | (split <;> omega) | (refine And.intro ?_ ?_ <;> split <;> omega)) | omega) (by (try dsimp only) <;> first | assumption | omega | ((try simp (disch := omega) only [w32_of, w64_of, w8_of]) <;> first | assumption | omega | (split <;> omega) | (refine And.intro ?_ ?_ <;> split <;> omega)) | omega) (fun x_3 e_x_3 => ?_)
  have b_x_3 : 0 ≤ x_3 ∧ x_3 ≤ 4200 := by rw [e_x_3]; exact ii_kR_firstSegment hσ _
  try simp (disch := omega) only [w32_of, w64_of, w8_of] at e_x_3
  have c5 := w32_rng (i_0 + 1)
  have c6 := w32_rng x_3
  refine wp_if (fun c4 => ?_) (fun c4 => ?_)
  · try simp (disch := omega) only [w32_of, w64_of, w8_of, decide_eq_true_eq, decide_eq_false_iff_not, Bool.not_eq_true] at c4
    have c7 := w32_rng x_1
    refine wp_rdI (by (try dsimp only) <;> first | assumption | omega | ((try simp (disch := omega) only [w32_of, w64_of, w8_of]) <;> first | assumption | omega | (split <;> omega) | (refine And.intro ?_ ?_ <;> split <;> omega)) | omega) (by (try dsimp only) <;> first | assumption | omega | ((try simp (disch := omega) only [w32_of, w64_of, w8_of]) <;> first | assumption | omega | (split <;> omega) | (refine And.intro ?_ ?_ <;> split <;> omega)) | omega) (fun x_6 e_x_6 => ?_)
    have b_x_6 : 0 ≤ x_6 ∧ x_6 ≤ 4200 := by rw [e_x_6]; exact ii_kR_firstSegment hσ _
    try simp (disch := omega) only [w32_of, w64_of, w8_of] at e_x_6
    refine wp_somek ?_
    try dsimp only
    exact wp_some (by (try dsimp only) <;> first | assumption | omega | ((try simp (disch := omega) only [w32_of, w64_of, w8_of]) <;> first | assumption | omega | (split <;> omega) | (refine And.intro ?_ ?_ <;> split <;> omega)) | omega)
  · try simp (disch := omega) only [w32_of, w64_of, w8_of, decide_eq_true_eq, decide_eq_false_iff_not, Bool.not_eq_true] at c4
    refine wp_somek ?_
    try dsimp only
    exact wp_some (by (try dsimp only) <;> first | assumption | omega | ((try simp (disch := omega) only [w32_of, w64_of, w8_of]) <;> first | assumption | omega | (split <;> omega) | (refine And.intro ?_ ?_ <;> split <;> omega)) | omega)
theorem s_R_isCrossing {σ : SG} {i_0 : Int} {j_0 : Int} (hσ : II σ) (qi_0 : 0 ≤ i_0 ∧ i_0 ≤ 4199) (qj_0 : 1 ≤ j_0 ∧ j_0 ≤ 4199) (w0 : JTb σ) (w1 : i_0 < σ kR_segments 0) (w2 : j_0 < σ kR_segments 0) : wp_ (fR_isCrossing σ i_0 j_0) (fun zz_ => True) := by
  unfold fR_isCrossing
  have c1 := ii_kR_segments hσ 0
  have w0c := w0
  obtain ⟨jG, jR, jS, jF, jO⟩ := w0c
  have jR0 := ii_kR_ringMany hσ 0
  have jS0 := ii_kR_segments hσ 0
  refine wp_bd (P := fun rr_ => True) ?_ ?_
  · have c2 := w32_rng i_0
    refine wp_rdI (by (try dsimp only) <;> first | assumption | omega | ((try simp (disch := omega) only [w32_of, w64_of, w8_of]) <;> first | assumption | omega | (split <;> omega) | (refine And.intro ?_ ?_ <;> split <;> omega)) | omega) (by (try dsimp only) <;> first | assumption | omega | ((try simp (disch := omega) only [w32_of, w64_of, w8_of]) <;> first | assumption | omega | (split <;> omega) | (refine And.intro ?_ ?_ <;> split <;> omega)) | omega) (fun x_1 e_x_1 => ?_)
    have b_x_1 : (-1000000000) ≤ x_1 ∧ x_1 ≤ 1000000000 := by rw [e_x_1]; exact ii_kR_ex hσ _
    try simp (disch := omega) only [w32_of, w64_of, w8_of] at e_x_1
    have c4 := w64_rng x_1
    have c5 := ii_kR_meetX hσ 0
    have c6 := w64_rng (σ kR_meetX 0)
    refine wp_if (fun c3 => ?_) (fun c3 => ?_)
    · try simp (disch := omega) only [w32_of, w64_of, w8_of, decide_eq_true_eq, decide_eq_false_iff_not, Bool.not_eq_true] at c3
      refine wp_rdI (by (try dsimp only) <;> first | assumption | omega | ((try simp (disch := omega) only [w32_of, w64_of, w8_of]) <;> first | assumption | omega | (split <;> omega) | (refine And.intro ?_ ?_ <;> split <;> omega)) | omega) (by (try dsimp only) <;> first | assumption | omega | ((try simp (disch := omega) only [w32_of, w64_of, w8_of]) <;> first | assumption | omega | (split <;> omega) | (refine And.intro ?_ ?_ <;> split <;> omega)) | omega) (fun x_4 e_x_4 => ?_)
      have b_x_4 : (-1000000000) ≤ x_4 ∧ x_4 ≤ 1000000000 := by rw [e_x_4]; exact ii_kR_ey hσ _
      try simp (disch := omega) only [w32_of, w64_of, w8_of] at e_x_4
      have c8 := w64_rng x_4
      have c9 := ii_kR_meetY hσ 0
      have c10 := w64_rng (σ kR_meetY 0)
      refine wp_if (fun c7 => ?_) (fun c7 => ?_)
      · try simp (disch := omega) only [w32_of, w64_of, w8_of, decide_eq_true_eq, decide_eq_false_iff_not, Bool.not_eq_true] at c7
        exact wp_some trivial
      · try simp (disch := omega) only [w32_of, w64_of, w8_of, decide_eq_true_eq, decide_eq_false_iff_not, Bool.not_eq_true] at c7
        exact wp_some trivial
    · try simp (disch := omega) only [w32_of, w64_of, w8_of, decide_eq_true_eq, decide_eq_false_iff_not, Bool.not_eq_true] at c3
      exact wp_some trivial
  rintro x_10 _ -
  refine wp_bd (P := fun rr_ => True) ?_ ?_
  · have c11 := w32_rng j_0
    refine wp_rdI (by (try dsimp only) <;> first | assumption | omega | ((try simp (disch := omega) only [w32_of, w64_of, w8_of]) <;> first | assumption | omega | (split <;> omega) | (refine And.intro ?_ ?_ <;> split <;> omega)) | omega) (by (try dsimp only) <;> first | assumption | omega | ((try simp (disch := omega) only [w32_of, w64_of, w8_of]) <;> first | assumption | omega | (split <;> omega) | (refine And.intro ?_ ?_ <;> split <;> omega)) | omega) (fun x_11 e_x_11 => ?_)
    have b_x_11 : (-1000000000) ≤ x_11 ∧ x_11 ≤ 1000000000 := by rw [e_x_11]; exact ii_kR_ex hσ _
    try simp (disch := omega) only [w32_of, w64_of, w8_of] at e_x_11
    have c13 := w64_rng x_11
    have c14 := ii_kR_meetX hσ 0
    have c15 := w64_rng (σ kR_meetX 0)
    refine wp_if (fun c12 => ?_) (fun c12 => ?_)
    · try simp (disch := omega) only [w32_of, w64_of, w8_of, decide_eq_true_eq, decide_eq_false_iff_not, Bool.not_eq_true] at c12
      refine wp_rdI (by (try dsimp only) <;> first | assumption | omega | ((try simp (disch := omega) only [w32_of, w64_of, w8_of]) <;> first | assumption | omega | (split <;> omega) | (refine And.intro ?_ ?_ <;> split <;> omega)) | omega) (by (try dsimp only) <;> first | assumption | omega | ((try simp (disch := omega) only [w32_of, w64_of, w8_of]) <;> first | assumption | omega | (split <;> omega) | (refine And.intro ?_ ?_ <;> split <;> omega)) | omega) (fun x_14 e_x_14 => ?_)
      have b_x_14 : (-1000000000) ≤ x_14 ∧ x_14 ≤ 1000000000 := by rw [e_x_14]; exact ii_kR_ey hσ _
      try simp (disch := omega) only [w32_of, w64_of, w8_of] at e_x_14
      have c17 := w64_rng x_14
      have c18 := ii_kR_meetY hσ 0
      have c19 := w64_rng (σ kR_meetY 0)
      refine wp_if (fun c16 => ?_) (fun c16 => ?_)
      · try simp (disch := omega) only [w32_of, w64_of, w8_of, decide_eq_true_eq, decide_eq_false_iff_not, Bool.not_eq_true] at c16
        exact wp_some trivial
      · try simp (disch := omega) only [w32_of, w64_of, w8_of, decide_eq_true_eq, decide_eq_false_iff_not, Bool.not_eq_true] at c16
        exact wp_some trivial
    · try simp (disch := omega) only [w32_of, w64_of, w8_of, decide_eq_true_eq, decide_eq_false_iff_not, Bool.not_eq_true] at c12
      exact wp_some trivial
  rintro x_20 _ -
  refine wp_bd (P := fun rr_ => (0 ≤ rr_ ∧ rr_ ≤ 4200) ∧ (0 ≤ rr_ ∧ rr_ ≤ 2048)) ?_ ?_
  · refine wp_if (fun c20 => ?_) (fun c20 => ?_)
    · try simp (disch := omega) only [w32_of, w64_of, w8_of, decide_eq_true_eq, decide_eq_false_iff_not, Bool.not_eq_true] at c20
      refine wp_bd (s_R_following (σ := σ) (i_0 := i_0) hσ (by (try dsimp only) <;> first | assumption | omega | ((try simp (disch := omega) only [w32_of, w64_of, w8_of]) <;> first | assumption | omega | (split <;> omega) | (refine And.intro ?_ ?_ <;> split <;> omega)) | omega) w0 (by (try dsimp only) <;> first | assumption | omega | ((try simp (disch := omega) only [w32_of, w64_of, w8_of]) <;> first | assumption | omega | (split <;> omega) | (refine And.intro ?_ ?_ <;> split <;> omega)) | omega)) ?_
      rintro x_25 - g21
      try simp (disch := omega) only [w32_of, w64_of, w8_of] at g21
      exact wp_some ⟨(by (try dsimp only) <;> first | assumption | omega | ((try simp (disch := omega) only [w32_of, w64_of, w8_of]) <;> first | assumption | omega | (split <;> omega) | (refine And.intro ?_ ?_ <;> split <;> omega)) | omega), (by (try dsimp only) <;> first | assumption | omega | ((try simp (disch := omega) only [w32_of, w64_of, w8_of]) <;> first | assumption | omega | (split <;> omega) | (refine And.intro ?_ ?_ <;> split <;> omega)) | omega)⟩
    · try simp (disch := omega) only [w32_of, w64_of, w8_of, decide_eq_true_eq, decide_eq_false_iff_not, Bool.not_eq_true] at c20
      exact wp_some ⟨(by (try dsimp only) <;> first | assumption | omega | ((try simp (disch := omega) only [w32_of, w64_of, w8_of]) <;> first | assumption | omega | (split <;> omega) | (refine And.intro ?_ ?_ <;> split <;> omega)) | omega), (by (try dsimp only) <;> first | assumption | omega | ((try simp (disch := omega) only [w32_of, w64_of, w8_of]) <;> first | assumption | omega | (split <;> omega) | (refine And.intro ?_ ?_ <;> split <;> omega)) | omega)⟩
  rintro x_28 _ ⟨g22, g23⟩
  refine wp_bd (P := fun rr_ => (0 ≤ rr_ ∧ rr_ ≤ 4200) ∧ (0 ≤ rr_ ∧ rr_ ≤ 2048)) ?_ ?_
  · refine wp_if (fun c24 => ?_) (fun c24 => ?_)
    · try simp (disch := omega) only [w32_of, w64_of, w8_of, decide_eq_true_eq, decide_eq_false_iff_not, Bool.not_eq_true] at c24
      refine wp_bd (s_R_following (σ := σ) (i_0 := j_0) hσ (by (try dsimp only) <;> first | assumption | omega | ((try simp (disch := omega) only [w32_of, w64_of, w8_of]) <;> first | assumption | omega | (split <;> omega) | (refine And.intro ?_ ?_ <;> split <;> omega)) | omega) w0 (by (try dsimp only) <;> first | assumption | omega | ((try simp (disch := omega) only [w32_of, w64_of, w8_of]) <;> first | assumption | omega | (split <;> omega) | (refine And.intro ?_ ?_ <;> split <;> omega)) | omega)) ?_
      rintro x_33 - g25
      try simp (disch := omega) only [w32_of, w64_of, w8_of] at g25
      exact wp_some ⟨(by (try dsimp only) <;> first | assumption | omega | ((try simp (disch := omega) only [w32_of, w64_of, w8_of]) <;> first | assumption | omega | (split <;> omega) | (refine And.intro ?_ ?_ <;> split <;> omega)) | omega), (by (try dsimp only) <;> first | assumption | omega | ((try simp (disch := omega) only [w32_of, w64_of, w8_of]) <;> first | assumption | omega | (split <;> omega) | (refine And.intro ?_ ?_ <;> split <;> omega)) | omega)⟩
    · try simp (disch := omega) only [w32_of, w64_of, w8_of, decide_eq_true_eq, decide_eq_false_iff_not, Bool.not_eq_true] at c24
      exact wp_some ⟨(by (try dsimp only) <;> first | assumption | omega | ((try simp (disch := omega) only [w32_of, w64_of, w8_of]) <;> first | assumption | omega | (split <;> omega) | (refine And.intro ?_ ?_ <;> split <;> omega)) | omega), (by (try dsimp only) <;> first | assumption | omega | ((try simp (disch := omega) only [w32_of, w64_of, w8_of]) <;> first | assumption | omega | (split <;> omega) | (refine And.intro ?_ ?_ <;> split <;> omega)) | omega)⟩
  rintro x_36 _ ⟨g26, g27⟩
  have c28 := w32_rng x_28
  refine wp_rdI (by (try dsimp only) <;> first | assumption | omega | ((try simp (disch := omega) only [w32_of, w64_of, w8_of]) <;> first | assumption | omega | (split <;> omega) | (refine And.intro ?_ ?_ <;> split <;> omega)) | omega) (by (try dsimp only) <;> first | assumption | omega | ((try simp (disch := omega) only [w32_of, w64_of, w8_of]) <;> first | assumption | omega | (split <;> omega) | (refine And.intro ?_ ?_ <;> split <;> omega)) | omega) (fun x_37 e_x_37 => ?_)
  have b_x_37 : (-1000000000) ≤ x_37 ∧ x_37 ≤ 1000000000 := by rw [e_x_37]; exact ii_kR_ex hσ _
  try simp (disch := omega) only [w32_of, w64_of, w8_of] at e_x_37
  refine wp_rdI (by (try dsimp only) <;> first | assumption | omega | ((try simp (disch := omega) only [w32_of, w64_of, w8_of]) <;> first | assumption | omega | (split <;> omega) | (refine And.intro ?_ ?_ <;> split <;> omega)) | omega) (by (try dsimp only) <;> first | assumption | omega | ((try simp (disch := omega) only [w32_of, w64_of, w8_of]) <;> first | assumption | omega | (split <;> omega) | (refine And.intro ?_ ?_ <;> split <;> omega)) | omega) (fun x_39 e_x_39 => ?_)
  have b_x_39 : (-1000000000) ≤ x_39 ∧ x_39 ≤ 1000000000 := by rw [e_x_39]; exact ii_kR_ey hσ _
  try simp (disch := omega) only [w32_of, w64_of, w8_of] at e_x_39
  have c29 := w32_rng i_0
  refine wp_rdI (by (try dsimp only) <;> first | assumption | omega | ((try simp (disch := omega) only [w32_of, w64_of, w8_of]) <;> first | assumption | omega | (split <;> omega) | (refine And.intro ?_ ?_ <;> split <;> omega)) | omega) (by (try dsimp only) <;> first | assumption | omega | ((try simp (disch := omega) only [w32_of, w64_of, w8_of]) <;> first | assumption | omega | (split <;> omega) | (refine And.intro ?_ ?_ <;> split <;> omega)) | omega) (fun x_41 e_x_41 => ?_)
  have b_x_41 : (-1000000000) ≤ x_41 ∧ x_41 ≤ 1000000000 := by rw [e_x_41]; exact ii_kR_sx hσ _
  try simp (disch := omega) only [w32_of, w64_of, w8_of] at e_x_41
  refine wp_rdI (by (try dsimp only) <;> first | assumption | omega | ((try simp (disch := omega) only [w32_of, w64_of, w8_of]) <;> first | assumption | omega | (split <;> omega) | (refine And.intro ?_ ?_ <;> split <;> omega)) | omega) (by (try dsimp only) <;> first | assumption | omega | ((try simp (disch := omega) only [w32_of, w64_of, w8_of]) <;> first | assumption | omega | (split <;> omega) | (refine And.intro ?_ ?_ <;> split <;> omega)) | omega) (fun x_43 e_x_43 => ?_)
  have b_x_43 : (-1000000000) ≤ x_43 ∧ x_43 ≤ 1000000000 := by rw [e_x_43]; exact ii_kR_sy hσ _
  try simp (disch := omega) only [w32_of, w64_of, w8_of] at e_x_43
  have c30 := w32_rng x_36
  refine wp_rdI (by (try dsimp only) <;> first | assumption | omega | ((try simp (disch := omega) only [w32_of, w64_of, w8_of]) <;> first | assumption | omega | (split <;> omega) | (refine And.intro ?_ ?_ <;> split <;> omega)) | omega) (by (try dsimp only) <;> first | assumption | omega | ((try simp (disch := omega) only [w32_of, w64_of, w8_of]) <;> first | assumption | omega | (split <;> omega) | (refine And.intro ?_ ?_ <;> split <;> omega)) | omega) (fun x_45 e_x_45 => ?_)
  have b_x_45 : (-1000000000) ≤ x_45 ∧ x_45 ≤ 1000000000 := by rw [e_x_45]; exact ii_kR_ex hσ _
  try simp (disch := omega) only [w32_of, w64_of, w8_of] at e_x_45
  refine wp_rdI (by (try dsimp only) <;> first | assumption | omega | ((try simp (disch := omega) only [w32_of, w64_of, w8_of]) <;> first | assumption | omega | (split <;> omega) | (refine And.intro ?_ ?_ <;> split <;> omega)) | omega) (by (try dsimp only) <;> first | assumption | omega | ((try simp (disch := omega) only [w32_of, w64_of, w8_of]) <;> first | assumption | omega | (split <;> omega) | (refine And.intro ?_ ?_ <;> split <;> omega)) | omega) (fun x_47 e_x_47 => ?_)
  have b_x_47 : (-1000000000) ≤ x_47 ∧ x_47 ≤ 1000000000 := by rw [e_x_47]; exact ii_kR_ey hσ _
  try simp (disch := omega) only [w32_of, w64_of, w8_of] at e_x_47
  have c31 := ii_kR_meetX hσ 0
  have c32 := ii_kR_meetY hσ 0
  refine wp_lt (fun x_49 e_x_49 => ?_)
  try simp (disch := omega) only [w32_of, w64_of, w8_of] at e_x_49
  have c33 := w32_rng j_0
  refine wp_rdI (by (try dsimp only) <;> first | assumption | omega | ((try simp (disch := omega) only [w32_of, w64_of, w8_of]) <;> first | assumption | omega | (split <;> omega) | (refine And.intro ?_ ?_ <;> split <;> omega)) | omega) (by (try dsimp only) <;> first | assumption | omega | ((try simp (disch := omega) only [w32_of, w64_of, w8_of]) <;> first | assumption | omega | (split <;> omega) | (refine And.intro ?_ ?_ <;> split <;> omega)) | omega) (fun x_50 e_x_50 => ?_)
  have b_x_50 : (-1000000000) ≤ x_50 ∧ x_50 ≤ 1000000000 := by rw [e_x_50]; exact ii_kR_sx hσ _
  try simp (disch := omega) only [w32_of, w64_of, w8_of] at e_x_50
  refine wp_rdI (by (try dsimp only) <;> first | assumption | omega | ((try simp (disch := omega) only [w32_of, w64_of, w8_of]) <;> first | assumption | omega | (split <;> omega) | (refine And.intro ?_ ?_ <;> split <;> omega)) | omega) (by (try dsimp only) <;> first | assumption | omega | ((try simp (disch := omega) only [w32_of, w64_of, w8_of]) <;> first | assumption | omega | (split <;> omega) | (refine And.intro ?_ ?_ <;> split <;> omega)) | omega) (fun x_52 e_x_52 => ?_)
  have b_x_52 : (-1000000000) ≤ x_52 ∧ x_52 ≤ 1000000000 := by rw [e_x_52]; exact ii_kR_sy hσ _
  try simp (disch := omega) only [w32_of, w64_of, w8_of] at e_x_52
  refine wp_lt (fun x_54 e_x_54 => ?_)
  try simp (disch := omega) only [w32_of, w64_of, w8_of] at e_x_54
  exact wp_some trivial
theorem s_R_wrongPair {σ : SG} {i_0 : Int} {j_0 : Int} (hσ : II σ) (qi_0 : 0 ≤ i_0 ∧ i_0 ≤ 4199) (qj_0 : 1 ≤ j_0 ∧ j_0 ≤ 4199) (w0 : JTb σ) (w1 : i_0 < σ kR_segments 0) (w2 : j_0 < σ kR_segments 0) : wp_ (fR_wrongPair σ i_0 j_0) (fun zz_ => (0 ≤ zz_.1 ∧ zz_.1 ≤ 5) ∧ II zz_.2 ∧ FR [kR_isInner, kR_meetX, kR_meetY] σ zz_.2) := by
  unfold fR_wrongPair
  have c1 := ii_kR_segments hσ 0
  have w0c := w0
  obtain ⟨jG, jR, jS, jF, jO⟩ := w0c
  have jR0 := ii_kR_ringMany hσ 0
  have jS0 := ii_kR_segments hσ 0
  have jo1 := jO i_0 (by omega) (by omega)
  have jo2 := jO j_0 (by omega) (by omega)
  refine wp_bd (s_R_meet (σ := σ) (i_0 := i_0) (j_0 := j_0) hσ (by (try dsimp only) <;> first | assumption | omega | ((try simp (disch := omega) only [w32_of, w64_of, w8_of]) <;> first | assumption | omega | (split <;> omega) | (refine And.intro ?_ ?_ <;> split <;> omega)) | omega) (by (try dsimp only) <;> first | assumption | omega | ((try simp (disch := omega) only [w32_of, w64_of, w8_of]) <;> first | assumption | omega | (split <;> omega) | (refine And.intro ?_ ?_ <;> split <;> omega)) | omega)) ?_
  rintro ⟨x_3, σ_2⟩ - y3
  try dsimp only at y3 ⊢
  obtain ⟨g2, hσ_2, flσ_2⟩ := y3
  have frσ_2 : FR [kR_isInner, kR_meetX, kR_meetY] σ σ_2 := FR_le flσ_2 (by decide)
  try simp (disch := omega) only [w32_of, w64_of, w8_of] at g2
  have c5 := w32_rng x_3
  refine wp_if (fun c4 => ?_) (fun c4 => ?_)
  · try simp (disch := omega) only [w32_of, w64_of, w8_of, decide_eq_true_eq, decide_eq_false_iff_not, Bool.not_eq_true] at c4
    exact wp_some ⟨(by (try dsimp only) <;> first | assumption | omega | ((try simp (disch := omega) only [w32_of, w64_of, w8_of]) <;> first | assumption | omega | (split <;> omega) | (refine And.intro ?_ ?_ <;> split <;> omega)) | omega), hσ_2, frσ_2⟩
  · try simp (disch := omega) only [w32_of, w64_of, w8_of, decide_eq_true_eq, decide_eq_false_iff_not, Bool.not_eq_true] at c4
    refine wp_if (fun c6 => ?_) (fun c6 => ?_)
    · try simp (disch := omega) only [w32_of, w64_of, w8_of, decide_eq_true_eq, decide_eq_false_iff_not, Bool.not_eq_true] at c6
      exact wp_some ⟨(by (try dsimp only) <;> first | assumption | omega | ((try simp (disch := omega) only [w32_of, w64_of, w8_of]) <;> first | assumption | omega | (split <;> omega) | (refine And.intro ?_ ?_ <;> split <;> omega)) | omega), hσ_2, frσ_2⟩
    · try simp (disch := omega) only [w32_of, w64_of, w8_of, decide_eq_true_eq, decide_eq_false_iff_not, Bool.not_eq_true] at c6
      have c8 := ii_kR_isInner hσ_2 0
      refine wp_if (fun c7 => ?_) (fun c7 => ?_)
      · try simp (disch := omega) only [w32_of, w64_of, w8_of, decide_eq_true_eq, decide_eq_false_iff_not, Bool.not_eq_true] at c7
        exact wp_some ⟨(by (try dsimp only) <;> first | assumption | omega | ((try simp (disch := omega) only [w32_of, w64_of, w8_of]) <;> first | assumption | omega | (split <;> omega) | (refine And.intro ?_ ?_ <;> split <;> omega)) | omega), hσ_2, frσ_2⟩
      · try simp (disch := omega) only [w32_of, w64_of, w8_of, decide_eq_true_eq, decide_eq_false_iff_not, Bool.not_eq_true] at c7
        have c9 := w32_rng i_0
        refine wp_rdI (by (try dsimp only) <;> first | assumption | omega | ((try simp (disch := omega) only [w32_of, w64_of, w8_of]) <;> first | assumption | omega | (split <;> omega) | (refine And.intro ?_ ?_ <;> split <;> omega)) | omega) (by (try dsimp only) <;> first | assumption | omega | ((try simp (disch := omega) only [w32_of, w64_of, w8_of]) <;> first | assumption | omega | (split <;> omega) | (refine And.intro ?_ ?_ <;> split <;> omega)) | omega) (fun x_7 e_x_7 => ?_)
        have b_x_7 : 0 ≤ x_7 ∧ x_7 ≤ 2048 := by rw [e_x_7]; exact ii_kR_ringOf hσ_2 _
        rw [FR_at frσ_2 (c := kR_ringOf) (by decide)] at e_x_7
        try simp (disch := omega) only [w32_of, w64_of, w8_of] at e_x_7
        have c10 := w32_rng j_0
        refine wp_rdI (by (try dsimp only) <;> first | assumption | omega | ((try simp (disch := omega) only [w32_of, w64_of, w8_of]) <;> first | assumption | omega | (split <;> omega) | (refine And.intro ?_ ?_ <;> split <;> omega)) | omega) (by (try dsimp only) <;> first | assumption | omega | ((try simp (disch := omega) only [w32_of, w64_of, w8_of]) <;> first | assumption | omega | (split <;> omega) | (refine And.intro ?_ ?_ <;> split <;> omega)) | omega) (fun x_9 e_x_9 => ?_)
        have b_x_9 : 0 ≤ x_9 ∧ x_9 ≤ 2048 := by rw [e_x_9]; exact ii_kR_ringOf hσ_2 _
        rw [FR_at frσ_2 (c := kR_ringOf) (by decide)] at e_x_9
        try simp (disch := omega) only [w32_of, w64_of, w8_of] at e_x_9
        have c12 := w32_rng x_7
        have c13 := w32_rng x_9
        refine wp_if (fun c11 => ?_) (fun c11 => ?_)
        · try simp (disch := omega) only [w32_of, w64_of, w8_of, decide_eq_true_eq, decide_eq_false_iff_not, Bool.not_eq_true] at c11
          refine wp_bd (P := fun rr_ => (0 ≤ rr_ ∧ rr_ ≤ 4)) ?_ ?_
          · refine wp_bd (s_R_begins (σ := σ_2) (i_0 := i_0) hσ_2 (by (try dsimp only) <;> first | assumption | omega | ((try simp (disch := omega) only [w32_of, w64_of, w8_of]) <;> first | assumption | omega | (split <;> omega) | (refine And.intro ?_ ?_ <;> split <;> omega)) | omega)) ?_
            rintro x_27 - -
            refine wp_if (fun c15 => ?_) (fun c15 => ?_)
            · try simp (disch := omega) only [w32_of, w64_of, w8_of, decide_eq_true_eq, decide_eq_false_iff_not, Bool.not_eq_true] at c15
              exact wp_some (by (try dsimp only) <;> first | assumption | omega | ((try simp (disch := omega) only [w32_of, w64_of, w8_of]) <;> first | assumption | omega | (split <;> omega) | (refine And.intro ?_ ?_ <;> split <;> omega)) | omega)
            · try simp (disch := omega) only [w32_of, w64_of, w8_of, decide_eq_true_eq, decide_eq_false_iff_not, Bool.not_eq_true] at c15
              refine wp_bd (s_R_begins (σ := σ_2) (i_0 := j_0) hσ_2 (by (try dsimp only) <;> first | assumption | omega | ((try simp (disch := omega) only [w32_of, w64_of, w8_of]) <;> first | assumption | omega | (split <;> omega) | (refine And.intro ?_ ?_ <;> split <;> omega)) | omega)) ?_
              rintro x_31 - -
              refine wp_if (fun c17 => ?_) (fun c17 => ?_)
              · try simp (disch := omega) only [w32_of, w64_of, w8_of, decide_eq_true_eq, decide_eq_false_iff_not, Bool.not_eq_true] at c17
                exact wp_some (by (try dsimp only) <;> first | assumption | omega | ((try simp (disch := omega) only [w32_of, w64_of, w8_of]) <;> first | assumption | omega | (split <;> omega) | (refine And.intro ?_ ?_ <;> split <;> omega)) | omega)
              · try simp (disch := omega) only [w32_of, w64_of, w8_of, decide_eq_true_eq, decide_eq_false_iff_not, Bool.not_eq_true] at c17
                have c18 := ii_kR_segments hσ_2 0
                have c19 := FR_at flσ_2 (c := kR_segments) (by decide) 0
                refine wp_bd (s_R_isCrossing (σ := σ_2) (i_0 := i_0) (j_0 := j_0) hσ_2 (by (try dsimp only) <;> first | assumption | omega | ((try simp (disch := omega) only [w32_of, w64_of, w8_of]) <;> first | assumption | omega | (split <;> omega) | (refine And.intro ?_ ?_ <;> split <;> omega)) | omega) (by (try dsimp only) <;> first | assumption | omega | ((try simp (disch := omega) only [w32_of, w64_of, w8_of]) <;> first | assumption | omega | (split <;> omega) | (refine And.intro ?_ ?_ <;> split <;> omega)) | omega) (JTb_f frσ_2 (by decide) w0) (by (try dsimp only) <;> first | assumption | omega | ((try simp (disch := omega) only [w32_of, w64_of, w8_of]) <;> first | assumption | omega | (split <;> omega) | (refine And.intro ?_ ?_ <;> split <;> omega)) | omega) (by (try dsimp only) <;> first | assumption | omega | ((try simp (disch := omega) only [w32_of, w64_of, w8_of]) <;> first | assumption | omega | (split <;> omega) | (refine And.intro ?_ ?_ <;> split <;> omega)) | omega)) ?_
                rintro x_35 - -
                refine wp_if (fun c21 => ?_) (fun c21 => ?_)
                · try simp (disch := omega) only [w32_of, w64_of, w8_of, decide_eq_true_eq, decide_eq_false_iff_not, Bool.not_eq_true] at c21
                  exact wp_some (by (try dsimp only) <;> first | assumption | omega | ((try simp (disch := omega) only [w32_of, w64_of, w8_of]) <;> first | assumption | omega | (split <;> omega) | (refine And.intro ?_ ?_ <;> split <;> omega)) | omega)
                · try simp (disch := omega) only [w32_of, w64_of, w8_of, decide_eq_true_eq, decide_eq_false_iff_not, Bool.not_eq_true] at c21
                  exact wp_some (by (try dsimp only) <;> first | assumption | omega | ((try simp (disch := omega) only [w32_of, w64_of, w8_of]) <;> first | assumption | omega | (split <;> omega) | (refine And.intro ?_ ?_ <;> split <;> omega)) | omega)
          rintro x_39 _ g22
          exact wp_some ⟨(by (try dsimp only) <;> first | assumption | omega | ((try simp (disch := omega) only [w32_of, w64_of, w8_of]) <;> first | assumption | omega | (split <;> omega) | (refine And.intro ?_ ?_ <;> split <;> omega)) | omega), hσ_2, frσ_2⟩
        · try simp (disch := omega) only [w32_of, w64_of, w8_of, decide_eq_true_eq, decide_eq_false_iff_not, Bool.not_eq_true] at c11
          refine wp_bd (P := fun rr_ => True) ?_ ?_
          · have c23 := ii_kR_segments hσ_2 0
            have c24 := FR_at flσ_2 (c := kR_segments) (by decide) 0
            refine wp_bd (s_R_following (σ := σ_2) (i_0 := i_0) hσ_2 (by (try dsimp only) <;> first | assumption | omega | ((try simp (disch := omega) only [w32_of, w64_of, w8_of]) <;> first | assumption | omega | (split <;> omega) | (refine And.intro ?_ ?_ <;> split <;> omega)) | omega) (JTb_f frσ_2 (by decide) w0) (by (try dsimp only) <;> first | assumption | omega | ((try simp (disch := omega) only [w32_of, w64_of, w8_of]) <;> first | assumption | omega | (split <;> omega) | (refine And.intro ?_ ?_ <;> split <;> omega)) | omega)) ?_
            rintro x_45 - g25
            try simp (disch := omega) only [w32_of, w64_of, w8_of] at g25
            have c27 := w32_rng x_45
            refine wp_if (fun c26 => ?_) (fun c26 => ?_)
            · try simp (disch := omega) only [w32_of, w64_of, w8_of, decide_eq_true_eq, decide_eq_false_iff_not, Bool.not_eq_true] at c26
              refine wp_bd (s_R_begins (σ := σ_2) (i_0 := j_0) hσ_2 (by (try dsimp only) <;> first | assumption | omega | ((try simp (disch := omega) only [w32_of, w64_of, w8_of]) <;> first | assumption | omega | (split <;> omega) | (refine And.intro ?_ ?_ <;> split <;> omega)) | omega)) ?_
              rintro x_48 - -
              refine wp_if (fun c29 => ?_) (fun c29 => ?_)
              · try simp (disch := omega) only [w32_of, w64_of, w8_of, decide_eq_true_eq, decide_eq_false_iff_not, Bool.not_eq_true] at c29
                exact wp_some trivial
              · try simp (disch := omega) only [w32_of, w64_of, w8_of, decide_eq_true_eq, decide_eq_false_iff_not, Bool.not_eq_true] at c29
                exact wp_some trivial
            · try simp (disch := omega) only [w32_of, w64_of, w8_of, decide_eq_true_eq, decide_eq_false_iff_not, Bool.not_eq_true] at c26
              exact wp_some trivial
          rintro x_53 _ -
          refine wp_bd (P := fun rr_ => True) ?_ ?_
          · have c30 := ii_kR_segments hσ_2 0
            have c31 := FR_at flσ_2 (c := kR_segments) (by decide) 0
            refine wp_bd (s_R_following (σ := σ_2) (i_0 := j_0) hσ_2 (by (try dsimp only) <;> first | assumption | omega | ((try simp (disch := omega) only [w32_of, w64_of, w8_of]) <;> first | assumption | omega | (split <;> omega) | (refine And.intro ?_ ?_ <;> split <;> omega)) | omega) (JTb_f frσ_2 (by decide) w0) (by (try dsimp only) <;> first | assumption | omega | ((try simp (disch := omega) only [w32_of, w64_of, w8_of]) <;> first | assumption | omega | (split <;> omega) | (refine And.intro ?_ ?_ <;> split <;> omega)) | omega)) ?_
            rintro x_55 - g32
            try simp (disch := omega) only [w32_of, w64_of, w8_of] at g32
            have c34 := w32_rng x_55
            refine wp_if (fun c33 => ?_) (fun c33 => ?_)
            · try simp (disch := omega) only [w32_of, w64_of, w8_of, decide_eq_true_eq, decide_eq_false_iff_not, Bool.not_eq_true] at c33
              refine wp_bd (s_R_begins (σ := σ_2) (i_0 := i_0) hσ_2 (by (try dsimp only) <;> first | assumption | omega | ((try simp (disch := omega) only [w32_of, w64_of, w8_of]) <;> first | assumption | omega | (split <;> omega) | (refine And.intro ?_ ?_ <;> split <;> omega)) | omega)) ?_
              rintro x_58 - -
              refine wp_if (fun c36 => ?_) (fun c36 => ?_)
              · try simp (disch := omega) only [w32_of, w64_of, w8_of, decide_eq_true_eq, decide_eq_false_iff_not, Bool.not_eq_true] at c36
                exact wp_some trivial
              · try simp (disch := omega) only [w32_of, w64_of, w8_of, decide_eq_true_eq, decide_eq_false_iff_not, Bool.not_eq_true] at c36
                exact wp_some trivial
            · try simp (disch := omega) only [w32_of, w64_of, w8_of, decide_eq_true_eq, decide_eq_false_iff_not, Bool.not_eq_true] at c33
              exact wp_some trivial
          rintro x_63 _ -
          exact wp_some ⟨(by (try dsimp only) <;> first | assumption | omega | ((try simp (disch := omega) only [w32_of, w64_of, w8_of]) <;> first | assumption | omega | (split <;> omega) | (refine And.intro ?_ ?_ <;> split <;> omega)) | omega), hσ_2, frσ_2⟩
theorem s_R_tellPair {σ : SG} {fault_0 : Int} {i_0 : Int} {j_0 : Int} (hσ : II σ) (qfault_0 : 1 ≤ fault_0 ∧ fault_0 ≤ 15) (qi_0 : 0 ≤ i_0 ∧ i_0 ≤ 4199) (qj_0 : 1 ≤ j_0 ∧ j_0 ≤ 4199) (w0 : JTb σ) (w1 : i_0 < σ kR_segments 0) (w2 : j_0 < σ kR_segments 0) : wp_ (fR_tellPair σ fault_0 i_0 j_0) (fun zz_ => (1 ≤ zz_.1 ∧ zz_.1 ≤ 15) ∧ II zz_.2 ∧ FR [kR_place] σ zz_.2) := by
  unfold fR_tellPair
  have c1 := ii_kR_segments hσ 0
  have w0c := w0
  obtain ⟨jG, jR, jS, jF, jO⟩ := w0c
  have jR0 := ii_kR_ringMany hσ 0
  have jS0 := ii_kR_segments hσ 0
  have jo1 := jO i_0 (by omega) (by omega)
  have jo2 := jO j_0 (by omega) (by omega)
  have c2 := w32_rng i_0
  refine wp_rdI (by (try dsimp only) <;> first | assumption | omega | ((try simp (disch := omega) only [w32_of, w64_of, w8_of]) <;> first | assumption | omega | (split <;> omega) | (refine And.intro ?_ ?_ <;> split <;> omega)) | omega) (by (try dsimp only) <;> first | assumption | omega | ((try simp (disch := omega) only [w32_of, w64_of, w8_of]) <;> first | assumption | omega | (split <;> omega) | (refine And.intro ?_ ?_ <;> split <;> omega)) | omega) (fun x_1 e_x_1 => ?_)
  have b_x_1 : 0 ≤ x_1 ∧ x_1 ≤ 2048 := by rw [e_x_1]; exact ii_kR_ringOf hσ _
  try simp (disch := omega) only [w32_of, w64_of, w8_of] at e_x_1
  have c3 := w32_rng x_1
  refine wp_rdI (by (try dsimp only) <;> first | assumption | omega | ((try simp (disch := omega) only [w32_of, w64_of, w8_of]) <;> first | assumption | omega | (split <;> omega) | (refine And.intro ?_ ?_ <;> split <;> omega)) | omega) (by (try dsimp only) <;> first | assumption | omega | ((try simp (disch := omega) only [w32_of, w64_of, w8_of]) <;> first | assumption | omega | (split <;> omega) | (refine And.intro ?_ ?_ <;> split <;> omega)) | omega) (fun x_3 e_x_3 => ?_)
  have b_x_3 : 0 ≤ x_3 ∧ x_3 ≤ 1025 := by rw [e_x_3]; exact ii_kR_ringPart hσ _
  try simp (disch := omega) only [w32_of, w64_of, w8_of] at e_x_3
  refine wp_waI hσ b_kR_place (by (try dsimp only) <;> first | assumption | omega | ((try simp (disch := omega) only [w32_of, w64_of, w8_of]) <;> first | assumption | omega | (split <;> omega) | (refine And.intro ?_ ?_ <;> split <;> omega)) | omega) (by (try dsimp only) <;> first | assumption | omega | ((try simp (disch := omega) only [w32_of, w64_of, w8_of]) <;> first | assumption | omega | (split <;> omega) | (refine And.intro ?_ ?_ <;> split <;> omega)) | omega) (by (try dsimp only) <;> first | assumption | omega | ((try simp (disch := omega) only [w32_of, w64_of, w8_of]) <;> first | assumption | omega | (split <;> omega) | (refine And.intro ?_ ?_ <;> split <;> omega)) | omega) (fun σ_5 hσ_5 eσ_5 => ?_)
  try simp (disch := omega) only [w32_of, w64_of, w8_of] at eσ_5
  have flσ_5 := FR_sg eσ_5
  have frσ_5 : FR [kR_place] σ σ_5 := FR_le flσ_5 (by decide)
  refine wp_rdI (by (try dsimp only) <;> first | assumption | omega | ((try simp (disch := omega) only [w32_of, w64_of, w8_of]) <;> first | assumption | omega | (split <;> omega) | (refine And.intro ?_ ?_ <;> split <;> omega)) | omega) (by (try dsimp only) <;> first | assumption | omega | ((try simp (disch := omega) only [w32_of, w64_of, w8_of]) <;> first | assumption | omega | (split <;> omega) | (refine And.intro ?_ ?_ <;> split <;> omega)) | omega) (fun x_7 e_x_7 => ?_)
  have b_x_7 : 0 ≤ x_7 ∧ x_7 ≤ 2048 := by rw [e_x_7]; exact ii_kR_ringOf hσ_5 _
  rw [FR_at frσ_5 (c := kR_ringOf) (by decide)] at e_x_7
  try simp (disch := omega) only [w32_of, w64_of, w8_of] at e_x_7
  have c4 := w32_rng x_7
  refine wp_rdI (by (try dsimp only) <;> first | assumption | omega | ((try simp (disch := omega) only [w32_of, w64_of, w8_of]) <;> first | assumption | omega | (split <;> omega) | (refine And.intro ?_ ?_ <;> split <;> omega)) | omega) (by (try dsimp only) <;> first | assumption | omega | ((try simp (disch := omega) only [w32_of, w64_of, w8_of]) <;> first | assumption | omega | (split <;> omega) | (refine And.intro ?_ ?_ <;> split <;> omega)) | omega) (fun x_9 e_x_9 => ?_)
  have b_x_9 : 0 ≤ x_9 ∧ x_9 ≤ 2047 := by rw [e_x_9]; exact ii_kR_ringNumber hσ_5 _
  rw [FR_at frσ_5 (c := kR_ringNumber) (by decide)] at e_x_9
  try simp (disch := omega) only [w32_of, w64_of, w8_of] at e_x_9
  refine wp_waI hσ_5 b_kR_place (by (try dsimp only) <;> first | assumption | omega | ((try simp (disch := omega) only [w32_of, w64_of, w8_of]) <;> first | assumption | omega | (split <;> omega) | (refine And.intro ?_ ?_ <;> split <;> omega)) | omega) (by (try dsimp only) <;> first | assumption | omega | ((try simp (disch := omega) only [w32_of, w64_of, w8_of]) <;> first | assumption | omega | (split <;> omega) | (refine And.intro ?_ ?_ <;> split <;> omega)) | omega) (by (try dsimp only) <;> first | assumption | omega | ((try simp (disch := omega) only [w32_of, w64_of, w8_of]) <;> first | assumption | omega | (split <;> omega) | (refine And.intro ?_ ?_ <;> split <;> omega)) | omega) (fun σ_11 hσ_11 eσ_11 => ?_)
  try simp (disch := omega) only [w32_of, w64_of, w8_of] at eσ_11
  have flσ_11 := FR_sg eσ_11
  have frσ_11 : FR [kR_place] σ σ_11 := FR_tr frσ_5 flσ_11 (by decide) (by decide)
  refine wp_rdI (by (try dsimp only) <;> first | assumption | omega | ((try simp (disch := omega) only [w32_of, w64_of, w8_of]) <;> first | assumption | omega | (split <;> omega) | (refine And.intro ?_ ?_ <;> split <;> omega)) | omega) (by (try dsimp only) <;> first | assumption | omega | ((try simp (disch := omega) only [w32_of, w64_of, w8_of]) <;> first | assumption | omega | (split <;> omega) | (refine And.intro ?_ ?_ <;> split <;> omega)) | omega) (fun x_13 e_x_13 => ?_)
  have b_x_13 : 0 ≤ x_13 ∧ x_13 ≤ 2048 := by rw [e_x_13]; exact ii_kR_numberOf hσ_11 _
  rw [FR_at frσ_11 (c := kR_numberOf) (by decide)] at e_x_13
  try simp (disch := omega) only [w32_of, w64_of, w8_of] at e_x_13
  refine wp_waI hσ_11 b_kR_place (by (try dsimp only) <;> first | assumption | omega | ((try simp (disch := omega) only [w32_of, w64_of, w8_of]) <;> first | assumption | omega | (split <;> omega) | (refine And.intro ?_ ?_ <;> split <;> omega)) | omega) (by (try dsimp only) <;> first | assumption | omega | ((try simp (disch := omega) only [w32_of, w64_of, w8_of]) <;> first | assumption | omega | (split <;> omega) | (refine And.intro ?_ ?_ <;> split <;> omega)) | omega) (by (try dsimp only) <;> first | assumption | omega | ((try simp (disch := omega) only [w32_of, w64_of, w8_of]) <;> first | assumption | omega | (split <;> omega) | (refine And.intro ?_ ?_ <;> split <;> omega)) | omega) (fun σ_15 hσ_15 eσ_15 => ?_)
  try simp (disch := omega) only [w32_of, w64_of, w8_of] at eσ_15
  have flσ_15 := FR_sg eσ_15
  have frσ_15 : FR [kR_place] σ σ_15 := FR_tr frσ_11 flσ_15 (by decide) (by decide)
  have c5 := w32_rng j_0
  refine wp_rdI (by (try dsimp only) <;> first | assumption | omega | ((try simp (disch := omega) only [w32_of, w64_of, w8_of]) <;> first | assumption | omega | (split <;> omega) | (refine And.intro ?_ ?_ <;> split <;> omega)) | omega) (by (try dsimp only) <;> first | assumption | omega | ((try simp (disch := omega) only [w32_of, w64_of, w8_of]) <;> first | assumption | omega | (split <;> omega) | (refine And.intro ?_ ?_ <;> split <;> omega)) | omega) (fun x_17 e_x_17 => ?_)
  have b_x_17 : 0 ≤ x_17 ∧ x_17 ≤ 2048 := by rw [e_x_17]; exact ii_kR_ringOf hσ_15 _
  rw [FR_at frσ_15 (c := kR_ringOf) (by decide)] at e_x_17
  try simp (disch := omega) only [w32_of, w64_of, w8_of] at e_x_17
  have c6 := w32_rng x_17
  refine wp_rdI (by (try dsimp only) <;> first | assumption | omega | ((try simp (disch := omega) only [w32_of, w64_of, w8_of]) <;> first | assumption | omega | (split <;> omega) | (refine And.intro ?_ ?_ <;> split <;> omega)) | omega) (by (try dsimp only) <;> first | assumption | omega | ((try simp (disch := omega) only [w32_of, w64_of, w8_of]) <;> first | assumption | omega | (split <;> omega) | (refine And.intro ?_ ?_ <;> split <;> omega)) | omega) (fun x_19 e_x_19 => ?_)
  have b_x_19 : 0 ≤ x_19 ∧ x_19 ≤ 1025 := by rw [e_x_19]; exact ii_kR_ringPart hσ_15 _
  rw [FR_at frσ_15 (c := kR_ringPart) (by decide)] at e_x_19
  try simp (disch := omega) only [w32_of, w64_of, w8_of] at e_x_19
  refine wp_waI hσ_15 b_kR_place (by (try dsimp only) <;> first | assumption | omega | ((try simp (disch := omega) only [w32_of, w64_of, w8_of]) <;> first | assumption | omega | (split <;> omega) | (refine And.intro ?_ ?_ <;> split <;> omega)) | omega) (by (try dsimp only) <;> first | assumption | omega | ((try simp (disch := omega) only [w32_of, w64_of, w8_of]) <;> first | assumption | omega | (split <;> omega) | (refine And.intro ?_ ?_ <;> split <;> omega)) | omega) (by (try dsimp only) <;> first | assumption | omega | ((try simp (disch := omega) only [w32_of, w64_of, w8_of]) <;> first | assumption | omega | (split <;> omega) | (refine And.intro ?_ ?_ <;> split <;> omega)) | omega) (fun σ_21 hσ_21 eσ_21 => ?_)
  try simp (disch := omega) only [w32_of, w64_of, w8_of] at eσ_21
  have flσ_21 := FR_sg eσ_21
  have frσ_21 : FR [kR_place] σ σ_21 := FR_tr frσ_15 flσ_21 (by decide) (by decide)
  refine wp_rdI (by (try dsimp only) <;> first | assumption | omega | ((try simp (disch := omega) only [w32_of, w64_of, w8_of]) <;> first | assumption | omega | (split <;> omega) | (refine And.intro ?_ ?_ <;> split <;> omega)) | omega) (by (try dsimp only) <;> first | assumption | omega | ((try simp (disch := omega) only [w32_of, w64_of, w8_of]) <;> first | assumption | omega | (split <;> omega) | (refine And.intro ?_ ?_ <;> split <;> omega)) | omega) (fun x_23 e_x_23 => ?_)
  have b_x_23 : 0 ≤ x_23 ∧ x_23 ≤ 2048 := by rw [e_x_23]; exact ii_kR_ringOf hσ_21 _
  rw [FR_at frσ_21 (c := kR_ringOf) (by decide)] at e_x_23
  try simp (disch := omega) only [w32_of, w64_of, w8_of] at e_x_23
  have c7 := w32_rng x_23
  refine wp_rdI (by (try dsimp only) <;> first | assumption | omega | ((try simp (disch := omega) only [w32_of, w64_of, w8_of]) <;> first | assumption | omega | (split <;> omega) | (refine And.intro ?_ ?_ <;> split <;> omega)) | omega) (by (try dsimp only) <;> first | assumption | omega | ((try simp (disch := omega) only [w32_of, w64_of, w8_of]) <;> first | assumption | omega | (split <;> omega) | (refine And.intro ?_ ?_ <;> split <;> omega)) | omega) (fun x_25 e_x_25 => ?_)
  have b_x_25 : 0 ≤ x_25 ∧ x_25 ≤ 2047 := by rw [e_x_25]; exact ii_kR_ringNumber hσ_21 _
  rw [FR_at frσ_21 (c := kR_ringNumber) (by decide)] at e_x_25
  try simp (disch := omega) only [w32_of, w64_of, w8_of] at e_x_25
  refine wp_waI hσ_21 b_kR_place (by (try dsimp only) <;> first | assumption | omega | ((try simp (disch := omega) only [w32_of, w64_of, w8_of]) <;> first | assumption | omega | (split <;> omega) | (refine And.intro ?_ ?_ <;> split <;> omega)) | omega) (by (try dsimp only) <;> first | assumption | omega | ((try simp (disch := omega) only [w32_of, w64_of, w8_of]) <;> first | assumption | omega | (split <;> omega) | (refine And.intro ?_ ?_ <;> split <;> omega)) | omega) (by (try dsimp only) <;> first | assumption | omega | ((try simp (disch := omega) only [w32_of, w64_of, w8_of]) <;> first | assumption | omega | (split <;> omega) | (refine And.intro ?_ ?_ <;> split <;> omega)) | omega) (fun σ_27 hσ_27 eσ_27 => ?_)
  try simp (disch := omega) only [w32_of, w64_of, w8_of] at eσ_27
  have flσ_27 := FR_sg eσ_27
  have frσ_27 : FR [kR_place] σ σ_27 := FR_tr frσ_21 flσ_27 (by decide) (by decide)
  refine wp_rdI (by (try dsimp only) <;> first | assumption | omega | ((try simp (disch := omega) only [w32_of, w64_of, w8_of]) <;> first | assumption | omega | (split <;> omega) | (refine And.intro ?_ ?_ <;> split <;> omega)) | omega) (by (try dsimp only) <;> first | assumption | omega | ((try simp (disch := omega) only [w32_of, w64_of, w8_of]) <;> first | assumption | omega | (split <;> omega) | (refine And.intro ?_ ?_ <;> split <;> omega)) | omega) (fun x_29 e_x_29 => ?_)
  have b_x_29 : 0 ≤ x_29 ∧ x_29 ≤ 2048 := by rw [e_x_29]; exact ii_kR_numberOf hσ_27 _
  rw [FR_at frσ_27 (c := kR_numberOf) (by decide)] at e_x_29
  try simp (disch := omega) only [w32_of, w64_of, w8_of] at e_x_29
  refine wp_waI hσ_27 b_kR_place (by (try dsimp only) <;> first | assumption | omega | ((try simp (disch := omega) only [w32_of, w64_of, w8_of]) <;> first | assumption | omega | (split <;> omega) | (refine And.intro ?_ ?_ <;> split <;> omega)) | omega) (by (try dsimp only) <;> first | assumption | omega | ((try simp (disch := omega) only [w32_of, w64_of, w8_of]) <;> first | assumption | omega | (split <;> omega) | (refine And.intro ?_ ?_ <;> split <;> omega)) | omega) (by (try dsimp only) <;> first | assumption | omega | ((try simp (disch := omega) only [w32_of, w64_of, w8_of]) <;> first | assumption | omega | (split <;> omega) | (refine And.intro ?_ ?_ <;> split <;> omega)) | omega) (fun σ_31 hσ_31 eσ_31 => ?_)
  try simp (disch := omega) only [w32_of, w64_of, w8_of] at eσ_31
  have flσ_31 := FR_sg eσ_31
  have frσ_31 : FR [kR_place] σ σ_31 := FR_tr frσ_27 flσ_31 (by decide) (by decide)
  exact wp_some ⟨(by (try dsimp only) <;> first | assumption | omega | ((try simp (disch := omega) only [w32_of, w64_of, w8_of]) <;> first | assumption | omega | (split <;> omega) | (refine And.intro ?_ ?_ <;> split <;> omega)) | omega), hσ_31, frσ_31⟩
theorem s_R_tellRing {σ : SG} {fault_0 : Int} {r_0 : Int} (hσ : II σ) (qfault_0 : 1 ≤ fault_0 ∧ fault_0 ≤ 7) (qr_0 : 0 ≤ r_0 ∧ r_0 ≤ 2047) (w0 : r_0 ≤ 2046) : wp_ (fR_tellRing σ fault_0 r_0) (fun zz_ => (1 ≤ zz_.1 ∧ zz_.1 ≤ 7) ∧ II zz_.2 ∧ FR [kR_place] σ zz_.2) := by
  unfold fR_tellRing
  have c1 := w32_rng r_0
  refine wp_rdI (by (try dsimp only) <;> first | assumption | omega | ((try simp (disch := omega) only [w32_of, w64_of, w8_of]) <;> first | assumption | omega | (split <;> omega) | (refine And.intro ?_ ?_ <;> split <;> omega)) | omega) (by (try dsimp only) <;> first | assumption | omega | ((try simp (disch := omega) only [w32_of, w64_of, w8_of]) <;> first | assumption | omega | (split <;> omega) | (refine And.intro ?_ ?_ <;> split <;> omega)) | omega) (fun x_1 e_x_1 => ?_)
  have b_x_1 : 0 ≤ x_1 ∧ x_1 ≤ 1025 := by rw [e_x_1]; exact ii_kR_ringPart hσ _
  try simp (disch := omega) only [w32_of, w64_of, w8_of] at e_x_1
  refine wp_waI hσ b_kR_place (by (try dsimp only) <;> first | assumption | omega | ((try simp (disch := omega) only [w32_of, w64_of, w8_of]) <;> first | assumption | omega | (split <;> omega) | (refine And.intro ?_ ?_ <;> split <;> omega)) | omega) (by (try dsimp only) <;> first | assumption | omega | ((try simp (disch := omega) only [w32_of, w64_of, w8_of]) <;> first | assumption | omega | (split <;> omega) | (refine And.intro ?_ ?_ <;> split <;> omega)) | omega) (by (try dsimp only) <;> first | assumption | omega | ((try simp (disch := omega) only [w32_of, w64_of, w8_of]) <;> first | assumption | omega | (split <;> omega) | (refine And.intro ?_ ?_ <;> split <;> omega)) | omega) (fun σ_3 hσ_3 eσ_3 => ?_)
  try simp (disch := omega) only [w32_of, w64_of, w8_of] at eσ_3
  have flσ_3 := FR_sg eσ_3
  have frσ_3 : FR [kR_place] σ σ_3 := FR_le flσ_3 (by decide)
  refine wp_rdI (by (try dsimp only) <;> first | assumption | omega | ((try simp (disch := omega) only [w32_of, w64_of, w8_of]) <;> first | assumption | omega | (split <;> omega) | (refine And.intro ?_ ?_ <;> split <;> omega)) | omega) (by (try dsimp only) <;> first | assumption | omega | ((try simp (disch := omega) only [w32_of, w64_of, w8_of]) <;> first | assumption | omega | (split <;> omega) | (refine And.intro ?_ ?_ <;> split <;> omega)) | omega) (fun x_5 e_x_5 => ?_)
  have b_x_5 : 0 ≤ x_5 ∧ x_5 ≤ 2047 := by rw [e_x_5]; exact ii_kR_ringNumber hσ_3 _
  rw [FR_at frσ_3 (c := kR_ringNumber) (by decide)] at e_x_5
  try simp (disch := omega) only [w32_of, w64_of, w8_of] at e_x_5
  refine wp_waI hσ_3 b_kR_place (by (try dsimp only) <;> first | assumption | omega | ((try simp (disch := omega) only [w32_of, w64_of, w8_of]) <;> first | assumption | omega | (split <;> omega) | (refine And.intro ?_ ?_ <;> split <;> omega)) | omega) (by (try dsimp only) <;> first | assumption | omega | ((try simp (disch := omega) only [w32_of, w64_of, w8_of]) <;> first | assumption | omega | (split <;> omega) | (refine And.intro ?_ ?_ <;> split <;> omega)) | omega) (by (try dsimp only) <;> first | assumption | omega | ((try simp (disch := omega) only [w32_of, w64_of, w8_of]) <;> first | assumption | omega | (split <;> omega) | (refine And.intro ?_ ?_ <;> split <;> omega)) | omega) (fun σ_7 hσ_7 eσ_7 => ?_)
  try simp (disch := omega) only [w32_of, w64_of, w8_of] at eσ_7
  have flσ_7 := FR_sg eσ_7
  have frσ_7 : FR [kR_place] σ σ_7 := FR_tr frσ_3 flσ_7 (by decide) (by decide)
  exact wp_some ⟨(by (try dsimp only) <;> first | assumption | omega | ((try simp (disch := omega) only [w32_of, w64_of, w8_of]) <;> first | assumption | omega | (split <;> omega) | (refine And.intro ?_ ?_ <;> split <;> omega)) | omega), hσ_7, frσ_7⟩
theorem s_R_isWithin {σ : SG} {x_0 : Int} {y_0 : Int} {ring_0 : Int} {dx_0 : Int} {dy_0 : Int} (hσ : II σ) (qx_0 : (-1000000000) ≤ x_0 ∧ x_0 ≤ 1000000000) (qy_0 : (-1000000000) ≤ y_0 ∧ y_0 ≤ 1000000000) (qring_0 : 0 ≤ ring_0 ∧ ring_0 ≤ 2048) (qdx_0 : (-2000000000) ≤ dx_0 ∧ dx_0 ≤ 2000000000) (qdy_0 : (-2000000000) ≤ dy_0 ∧ dy_0 ≤ 2000000000) (w0 : ring_0 ≤ 2047) : wp_ (fR_isWithin σ x_0 y_0 ring_0 dx_0 dy_0) (fun zz_ => True) := by
  unfold fR_isWithin
  have c1 := w32_rng ring_0
  refine wp_rdI (by (try dsimp only) <;> first | assumption | omega | ((try simp (disch := omega) only [w32_of, w64_of, w8_of]) <;> first | assumption | omega | (split <;> omega) | (refine And.intro ?_ ?_ <;> split <;> omega)) | omega) (by (try dsimp only) <;> first | assumption | omega | ((try simp (disch := omega) only [w32_of, w64_of, w8_of]) <;> first | assumption | omega | (split <;> omega) | (refine And.intro ?_ ?_ <;> split <;> omega)) | omega) (fun x_1 e_x_1 => ?_)
  have b_x_1 : 0 ≤ x_1 ∧ x_1 ≤ 4200 := by rw [e_x_1]; exact ii_kR_firstSegment hσ _
  try simp (disch := omega) only [w32_of, w64_of, w8_of] at e_x_1
  refine wp_bd (P := fun rr_ => (0 ≤ rr_.2 ∧ rr_.2 ≤ 4200)) ?_ ?_
  · refine wp_whl (fun ss_ => (0 ≤ ss_.2 ∧ ss_.2 ≤ 4200)) (fun ss_ => (4201 - ss_.2).toNat) (by (try dsimp only) <;> first | assumption | omega | ((try simp (disch := omega) only [w32_of, w64_of, w8_of]) <;> first | assumption | omega | (split <;> omega) | (refine And.intro ?_ ?_ <;> split <;> omega)) | omega) ?_
    rintro ⟨within_3, i_4⟩ y3
    try dsimp only at y3 ⊢
    have g2 := y3
    have c4 := w32_rng (ring_0 + 1)
    refine wp_rdI (by (try dsimp only) <;> first | assumption | omega | ((try simp (disch := omega) only [w32_of, w64_of, w8_of]) <;> first | assumption | omega | (split <;> omega) | (refine And.intro ?_ ?_ <;> split <;> omega)) | omega) (by (try dsimp only) <;> first | assumption | omega | ((try simp (disch := omega) only [w32_of, w64_of, w8_of]) <;> first | assumption | omega | (split <;> omega) | (refine And.intro ?_ ?_ <;> split <;> omega)) | omega) (fun x_12 e_x_12 => ?_)
    have b_x_12 : 0 ≤ x_12 ∧ x_12 ≤ 4200 := by rw [e_x_12]; exact ii_kR_firstSegment hσ _
    try simp (disch := omega) only [w32_of, w64_of, w8_of] at e_x_12
    have c6 := w32_rng i_4
    have c7 := w32_rng x_12
    refine wp_if (fun c5 => ?_) (fun c5 => ?_)
    · try simp (disch := omega) only [w32_of, w64_of, w8_of, decide_eq_true_eq, decide_eq_false_iff_not, Bool.not_eq_true] at c5
      refine wp_bd (P := fun rr_ => True) ?_ ?_
      · refine wp_rdI (by (try dsimp only) <;> first | assumption | omega | ((try simp (disch := omega) only [w32_of, w64_of, w8_of]) <;> first | assumption | omega | (split <;> omega) | (refine And.intro ?_ ?_ <;> split <;> omega)) | omega) (by (try dsimp only) <;> first | assumption | omega | ((try simp (disch := omega) only [w32_of, w64_of, w8_of]) <;> first | assumption | omega | (split <;> omega) | (refine And.intro ?_ ?_ <;> split <;> omega)) | omega) (fun x_15 e_x_15 => ?_)
        have b_x_15 : (-1000000000) ≤ x_15 ∧ x_15 ≤ 1000000000 := by rw [e_x_15]; exact ii_kR_sy hσ _
        try simp (disch := omega) only [w32_of, w64_of, w8_of] at e_x_15
        have c9 := w64_rng y_0
        have c10 := w64_rng x_15
        refine wp_if (fun c8 => ?_) (fun c8 => ?_)
        · try simp (disch := omega) only [w32_of, w64_of, w8_of, decide_eq_true_eq, decide_eq_false_iff_not, Bool.not_eq_true] at c8
          exact wp_some trivial
        · try simp (disch := omega) only [w32_of, w64_of, w8_of, decide_eq_true_eq, decide_eq_false_iff_not, Bool.not_eq_true] at c8
          refine wp_rdI (by (try dsimp only) <;> first | assumption | omega | ((try simp (disch := omega) only [w32_of, w64_of, w8_of]) <;> first | assumption | omega | (split <;> omega) | (refine And.intro ?_ ?_ <;> split <;> omega)) | omega) (by (try dsimp only) <;> first | assumption | omega | ((try simp (disch := omega) only [w32_of, w64_of, w8_of]) <;> first | assumption | omega | (split <;> omega) | (refine And.intro ?_ ?_ <;> split <;> omega)) | omega) (fun x_19 e_x_19 => ?_)
          have b_x_19 : (-1000000000) ≤ x_19 ∧ x_19 ≤ 1000000000 := by rw [e_x_19]; exact ii_kR_sy hσ _
          try simp (disch := omega) only [w32_of, w64_of, w8_of] at e_x_19
          have c12 := w64_rng x_19
          refine wp_if (fun c11 => ?_) (fun c11 => ?_)
          · try simp (disch := omega) only [w32_of, w64_of, w8_of, decide_eq_true_eq, decide_eq_false_iff_not, Bool.not_eq_true] at c11
            have c14 := w64_rng dy_0
            refine wp_if (fun c13 => ?_) (fun c13 => ?_)
            · try simp (disch := omega) only [w32_of, w64_of, w8_of, decide_eq_true_eq, decide_eq_false_iff_not, Bool.not_eq_true] at c13
              exact wp_some trivial
            · try simp (disch := omega) only [w32_of, w64_of, w8_of, decide_eq_true_eq, decide_eq_false_iff_not, Bool.not_eq_true] at c13
              exact wp_some trivial
          · try simp (disch := omega) only [w32_of, w64_of, w8_of, decide_eq_true_eq, decide_eq_false_iff_not, Bool.not_eq_true] at c11
            exact wp_some trivial
      rintro x_26 _ -
      refine wp_bd (P := fun rr_ => True) ?_ ?_
      · refine wp_rdI (by (try dsimp only) <;> first | assumption | omega | ((try simp (disch := omega) only [w32_of, w64_of, w8_of]) <;> first | assumption | omega | (split <;> omega) | (refine And.intro ?_ ?_ <;> split <;> omega)) | omega) (by (try dsimp only) <;> first | assumption | omega | ((try simp (disch := omega) only [w32_of, w64_of, w8_of]) <;> first | assumption | omega | (split <;> omega) | (refine And.intro ?_ ?_ <;> split <;> omega)) | omega) (fun x_27 e_x_27 => ?_)
        have b_x_27 : (-1000000000) ≤ x_27 ∧ x_27 ≤ 1000000000 := by rw [e_x_27]; exact ii_kR_ey hσ _
        try simp (disch := omega) only [w32_of, w64_of, w8_of] at e_x_27
        have c16 := w64_rng y_0
        have c17 := w64_rng x_27
        refine wp_if (fun c15 => ?_) (fun c15 => ?_)
        · try simp (disch := omega) only [w32_of, w64_of, w8_of, decide_eq_true_eq, decide_eq_false_iff_not, Bool.not_eq_true] at c15
          exact wp_some trivial
        · try simp (disch := omega) only [w32_of, w64_of, w8_of, decide_eq_true_eq, decide_eq_false_iff_not, Bool.not_eq_true] at c15
          refine wp_rdI (by (try dsimp only) <;> first | assumption | omega | ((try simp (disch := omega) only [w32_of, w64_of, w8_of]) <;> first | assumption | omega | (split <;> omega) | (refine And.intro ?_ ?_ <;> split <;> omega)) | omega) (by (try dsimp only) <;> first | assumption | omega | ((try simp (disch := omega) only [w32_of, w64_of, w8_of]) <;> first | assumption | omega | (split <;> omega) | (refine And.intro ?_ ?_ <;> split <;> omega)) | omega) (fun x_31 e_x_31 => ?_)
          have b_x_31 : (-1000000000) ≤ x_31 ∧ x_31 ≤ 1000000000 := by rw [e_x_31]; exact ii_kR_ey hσ _
          try simp (disch := omega) only [w32_of, w64_of, w8_of] at e_x_31
          have c19 := w64_rng x_31
          refine wp_if (fun c18 => ?_) (fun c18 => ?_)
          · try simp (disch := omega) only [w32_of, w64_of, w8_of, decide_eq_true_eq, decide_eq_false_iff_not, Bool.not_eq_true] at c18
            have c21 := w64_rng dy_0
            refine wp_if (fun c20 => ?_) (fun c20 => ?_)
            · try simp (disch := omega) only [w32_of, w64_of, w8_of, decide_eq_true_eq, decide_eq_false_iff_not, Bool.not_eq_true] at c20
              exact wp_some trivial
            · try simp (disch := omega) only [w32_of, w64_of, w8_of, decide_eq_true_eq, decide_eq_false_iff_not, Bool.not_eq_true] at c20
              exact wp_some trivial
          · try simp (disch := omega) only [w32_of, w64_of, w8_of, decide_eq_true_eq, decide_eq_false_iff_not, Bool.not_eq_true] at c18
            exact wp_some trivial
      rintro x_38 _ -
      refine wp_if (fun c22 => ?_) (fun c22 => ?_)
      · try simp (disch := omega) only [w32_of, w64_of, w8_of, decide_eq_true_eq, decide_eq_false_iff_not, Bool.not_eq_true] at c22
        exact wp_some (x_inl ⟨(by (try dsimp only) <;> first | assumption | omega | ((try simp (disch := omega) only [w32_of, w64_of, w8_of]) <;> first | assumption | omega | (split <;> omega) | (refine And.intro ?_ ?_ <;> split <;> omega)) | omega), (by (try dsimp only) <;> first | assumption | omega | ((try simp (disch := omega) only [w32_of, w64_of, w8_of]) <;> first | assumption | omega | (split <;> omega) | (refine And.intro ?_ ?_ <;> split <;> omega)) | omega)⟩)
      · try simp (disch := omega) only [w32_of, w64_of, w8_of, decide_eq_true_eq, decide_eq_false_iff_not, Bool.not_eq_true] at c22
        refine wp_bd (P := fun rr_ => ((-1000000000) ≤ rr_ ∧ rr_ ≤ 1000000000)) ?_ ?_
        · refine wp_if (fun c23 => ?_) (fun c23 => ?_)
          · try simp (disch := omega) only [w32_of, w64_of, w8_of, decide_eq_true_eq, decide_eq_false_iff_not, Bool.not_eq_true] at c23
            refine wp_rdI (by (try dsimp only) <;> first | assumption | omega | ((try simp (disch := omega) only [w32_of, w64_of, w8_of]) <;> first | assumption | omega | (split <;> omega) | (refine And.intro ?_ ?_ <;> split <;> omega)) | omega) (by (try dsimp only) <;> first | assumption | omega | ((try simp (disch := omega) only [w32_of, w64_of, w8_of]) <;> first | assumption | omega | (split <;> omega) | (refine And.intro ?_ ?_ <;> split <;> omega)) | omega) (fun x_46 e_x_46 => ?_)
            have b_x_46 : (-1000000000) ≤ x_46 ∧ x_46 ≤ 1000000000 := by rw [e_x_46]; exact ii_kR_ex hσ _
            try simp (disch := omega) only [w32_of, w64_of, w8_of] at e_x_46
            exact wp_some (by (try dsimp only) <;> first | assumption | omega | ((try simp (disch := omega) only [w32_of, w64_of, w8_of]) <;> first | assumption | omega | (split <;> omega) | (refine And.intro ?_ ?_ <;> split <;> omega)) | omega)
          · try simp (disch := omega) only [w32_of, w64_of, w8_of, decide_eq_true_eq, decide_eq_false_iff_not, Bool.not_eq_true] at c23
            refine wp_rdI (by (try dsimp only) <;> first | assumption | omega | ((try simp (disch := omega) only [w32_of, w64_of, w8_of]) <;> first | assumption | omega | (split <;> omega) | (refine And.intro ?_ ?_ <;> split <;> omega)) | omega) (by (try dsimp only) <;> first | assumption | omega | ((try simp (disch := omega) only [w32_of, w64_of, w8_of]) <;> first | assumption | omega | (split <;> omega) | (refine And.intro ?_ ?_ <;> split <;> omega)) | omega) (fun x_49 e_x_49 => ?_)
            have b_x_49 : (-1000000000) ≤ x_49 ∧ x_49 ≤ 1000000000 := by rw [e_x_49]; exact ii_kR_sx hσ _
            try simp (disch := omega) only [w32_of, w64_of, w8_of] at e_x_49
            exact wp_some (by (try dsimp only) <;> first | assumption | omega | ((try simp (disch := omega) only [w32_of, w64_of, w8_of]) <;> first | assumption | omega | (split <;> omega) | (refine And.intro ?_ ?_ <;> split <;> omega)) | omega)
        rintro x_52 _ g24
        refine wp_bd (P := fun rr_ => ((-1000000000) ≤ rr_ ∧ rr_ ≤ 1000000000)) ?_ ?_
        · refine wp_if (fun c25 => ?_) (fun c25 => ?_)
          · try simp (disch := omega) only [w32_of, w64_of, w8_of, decide_eq_true_eq, decide_eq_false_iff_not, Bool.not_eq_true] at c25
            refine wp_rdI (by (try dsimp only) <;> first | assumption | omega | ((try simp (disch := omega) only [w32_of, w64_of, w8_of]) <;> first | assumption | omega | (split <;> omega) | (refine And.intro ?_ ?_ <;> split <;> omega)) | omega) (by (try dsimp only) <;> first | assumption | omega | ((try simp (disch := omega) only [w32_of, w64_of, w8_of]) <;> first | assumption | omega | (split <;> omega) | (refine And.intro ?_ ?_ <;> split <;> omega)) | omega) (fun x_58 e_x_58 => ?_)
            have b_x_58 : (-1000000000) ≤ x_58 ∧ x_58 ≤ 1000000000 := by rw [e_x_58]; exact ii_kR_ey hσ _
            try simp (disch := omega) only [w32_of, w64_of, w8_of] at e_x_58
            exact wp_some (by (try dsimp only) <;> first | assumption | omega | ((try simp (disch := omega) only [w32_of, w64_of, w8_of]) <;> first | assumption | omega | (split <;> omega) | (refine And.intro ?_ ?_ <;> split <;> omega)) | omega)
          · try simp (disch := omega) only [w32_of, w64_of, w8_of, decide_eq_true_eq, decide_eq_false_iff_not, Bool.not_eq_true] at c25
            refine wp_rdI (by (try dsimp only) <;> first | assumption | omega | ((try simp (disch := omega) only [w32_of, w64_of, w8_of]) <;> first | assumption | omega | (split <;> omega) | (refine And.intro ?_ ?_ <;> split <;> omega)) | omega) (by (try dsimp only) <;> first | assumption | omega | ((try simp (disch := omega) only [w32_of, w64_of, w8_of]) <;> first | assumption | omega | (split <;> omega) | (refine And.intro ?_ ?_ <;> split <;> omega)) | omega) (fun x_61 e_x_61 => ?_)
            have b_x_61 : (-1000000000) ≤ x_61 ∧ x_61 ≤ 1000000000 := by rw [e_x_61]; exact ii_kR_sy hσ _
            try simp (disch := omega) only [w32_of, w64_of, w8_of] at e_x_61
            exact wp_some (by (try dsimp only) <;> first | assumption | omega | ((try simp (disch := omega) only [w32_of, w64_of, w8_of]) <;> first | assumption | omega | (split <;> omega) | (refine And.intro ?_ ?_ <;> split <;> omega)) | omega)
        rintro x_64 _ g26
        refine wp_bd (P := fun rr_ => ((-1000000000) ≤ rr_ ∧ rr_ ≤ 1000000000)) ?_ ?_
        · refine wp_if (fun c27 => ?_) (fun c27 => ?_)
          · try simp (disch := omega) only [w32_of, w64_of, w8_of, decide_eq_true_eq, decide_eq_false_iff_not, Bool.not_eq_true] at c27
            refine wp_rdI (by (try dsimp only) <;> first | assumption | omega | ((try simp (disch := omega) only [w32_of, w64_of, w8_of]) <;> first | assumption | omega | (split <;> omega) | (refine And.intro ?_ ?_ <;> split <;> omega)) | omega) (by (try dsimp only) <;> first | assumption | omega | ((try simp (disch := omega) only [w32_of, w64_of, w8_of]) <;> first | assumption | omega | (split <;> omega) | (refine And.intro ?_ ?_ <;> split <;> omega)) | omega) (fun x_70 e_x_70 => ?_)
            have b_x_70 : (-1000000000) ≤ x_70 ∧ x_70 ≤ 1000000000 := by rw [e_x_70]; exact ii_kR_sx hσ _
            try simp (disch := omega) only [w32_of, w64_of, w8_of] at e_x_70
            exact wp_some (by (try dsimp only) <;> first | assumption | omega | ((try simp (disch := omega) only [w32_of, w64_of, w8_of]) <;> first | assumption | omega | (split <;> omega) | (refine And.intro ?_ ?_ <;> split <;> omega)) | omega)
          · try simp (disch := omega) only [w32_of, w64_of, w8_of, decide_eq_true_eq, decide_eq_false_iff_not, Bool.not_eq_true] at c27
            refine wp_rdI (by (try dsimp only) <;> first | assumption | omega | ((try simp (disch := omega) only [w32_of, w64_of, w8_of]) <;> first | assumption | omega | (split <;> omega) | (refine And.intro ?_ ?_ <;> split <;> omega)) | omega) (by (try dsimp only) <;> first | assumption | omega | ((try simp (disch := omega) only [w32_of, w64_of, w8_of]) <;> first | assumption | omega | (split <;> omega) | (refine And.intro ?_ ?_ <;> split <;> omega)) | omega) (fun x_73 e_x_73 => ?_)
            have b_x_73 : (-1000000000) ≤ x_73 ∧ x_73 ≤ 1000000000 := by rw [e_x_73]; exact ii_kR_ex hσ _
            try simp (disch := omega) only [w32_of, w64_of, w8_of] at e_x_73
            exact wp_some (by (try dsimp only) <;> first | assumption | omega | ((try simp (disch := omega) only [w32_of, w64_of, w8_of]) <;> first | assumption | omega | (split <;> omega) | (refine And.intro ?_ ?_ <;> split <;> omega)) | omega)
        rintro x_76 _ g28
        refine wp_bd (P := fun rr_ => ((-1000000000) ≤ rr_ ∧ rr_ ≤ 1000000000)) ?_ ?_
        · refine wp_if (fun c29 => ?_) (fun c29 => ?_)
          · try simp (disch := omega) only [w32_of, w64_of, w8_of, decide_eq_true_eq, decide_eq_false_iff_not, Bool.not_eq_true] at c29
            refine wp_rdI (by (try dsimp only) <;> first | assumption | omega | ((try simp (disch := omega) only [w32_of, w64_of, w8_of]) <;> first | assumption | omega | (split <;> omega) | (refine And.intro ?_ ?_ <;> split <;> omega)) | omega) (by (try dsimp only) <;> first | assumption | omega | ((try simp (disch := omega) only [w32_of, w64_of, w8_of]) <;> first | assumption | omega | (split <;> omega) | (refine And.intro ?_ ?_ <;> split <;> omega)) | omega) (fun x_82 e_x_82 => ?_)
            have b_x_82 : (-1000000000) ≤ x_82 ∧ x_82 ≤ 1000000000 := by rw [e_x_82]; exact ii_kR_sy hσ _
            try simp (disch := omega) only [w32_of, w64_of, w8_of] at e_x_82
            exact wp_some (by (try dsimp only) <;> first | assumption | omega | ((try simp (disch := omega) only [w32_of, w64_of, w8_of]) <;> first | assumption | omega | (split <;> omega) | (refine And.intro ?_ ?_ <;> split <;> omega)) | omega)
          · try simp (disch := omega) only [w32_of, w64_of, w8_of, decide_eq_true_eq, decide_eq_false_iff_not, Bool.not_eq_true] at c29
            refine wp_rdI (by (try dsimp only) <;> first | assumption | omega | ((try simp (disch := omega) only [w32_of, w64_of, w8_of]) <;> first | assumption | omega | (split <;> omega) | (refine And.intro ?_ ?_ <;> split <;> omega)) | omega) (by (try dsimp only) <;> first | assumption | omega | ((try simp (disch := omega) only [w32_of, w64_of, w8_of]) <;> first | assumption | omega | (split <;> omega) | (refine And.intro ?_ ?_ <;> split <;> omega)) | omega) (fun x_85 e_x_85 => ?_)
            have b_x_85 : (-1000000000) ≤ x_85 ∧ x_85 ≤ 1000000000 := by rw [e_x_85]; exact ii_kR_ey hσ _
            try simp (disch := omega) only [w32_of, w64_of, w8_of] at e_x_85
            exact wp_some (by (try dsimp only) <;> first | assumption | omega | ((try simp (disch := omega) only [w32_of, w64_of, w8_of]) <;> first | assumption | omega | (split <;> omega) | (refine And.intro ?_ ?_ <;> split <;> omega)) | omega)
        rintro x_88 _ g30
        have c31 := p_R_turn (ax_0 := x_52) (ay_0 := x_64) (bx_0 := x_76) (by_0 := x_88) (cx_0 := x_0) (cy_0 := y_0)
        have c32 := w32_rng (fR_turn x_52 x_64 x_76 x_88 x_0 y_0)
        have c33 := p_R_signOf (v_0 := (fR_cross (x_76 - x_52) (x_88 - x_64) dx_0 dy_0))
        refine wp_lt (fun x_90 e_x_90 => ?_)
        try simp (disch := omega) only [w32_of, w64_of, w8_of] at e_x_90
        have c34 := w32_rng x_90
        refine wp_lt (fun x_94 e_x_94 => ?_)
        try simp (disch := omega) only [w32_of, w64_of, w8_of] at e_x_94
        exact wp_some (x_inl ⟨(by (try dsimp only) <;> first | assumption | omega | ((try simp (disch := omega) only [w32_of, w64_of, w8_of]) <;> first | assumption | omega | (split <;> omega) | (refine And.intro ?_ ?_ <;> split <;> omega)) | omega), (by (try dsimp only) <;> first | assumption | omega | ((try simp (disch := omega) only [w32_of, w64_of, w8_of]) <;> first | assumption | omega | (split <;> omega) | (refine And.intro ?_ ?_ <;> split <;> omega)) | omega)⟩)
    · try simp (disch := omega) only [w32_of, w64_of, w8_of, decide_eq_true_eq, decide_eq_false_iff_not, Bool.not_eq_true] at c5
      exact wp_some (x_inr (by (try dsimp only) <;> first | assumption | omega | ((try simp (disch := omega) only [w32_of, w64_of, w8_of]) <;> first | assumption | omega | (split <;> omega) | (refine And.intro ?_ ?_ <;> split <;> omega)) | omega))
  rintro ⟨within_125, i_126⟩ _ y36
  try dsimp only at y36 ⊢
  have g35 := y36
  exact wp_some trivial
theorem s_R_isOnRing {σ : SG} {x_0 : Int} {y_0 : Int} {ring_0 : Int} (hσ : II σ) (qx_0 : (-1000000000) ≤ x_0 ∧ x_0 ≤ 1000000000) (qy_0 : (-1000000000) ≤ y_0 ∧ y_0 ≤ 1000000000) (qring_0 : 0 ≤ ring_0 ∧ ring_0 ≤ 2048) (w0 : ring_0 ≤ 2047) : wp_ (fR_isOnRing σ x_0 y_0 ring_0) (fun zz_ => True) := by
  unfold fR_isOnRing
  have c1 := w32_rng ring_0
  refine wp_rdI (by (try dsimp only) <;> first | assumption | omega | ((try simp (disch := omega) only [w32_of, w64_of, w8_of]) <;> first | assumption | omega | (split <;> omega) | (refine And.intro ?_ ?_ <;> split <;> omega)) | omega) (by (try dsimp only) <;> first | assumption | omega | ((try simp (disch := omega) only [w32_of, w64_of, w8_of]) <;> first | assumption | omega | (split <;> omega) | (refine And.intro ?_ ?_ <;> split <;> omega)) | omega) (fun x_1 e_x_1 => ?_)
  have b_x_1 : 0 ≤ x_1 ∧ x_1 ≤ 4200 := by rw [e_x_1]; exact ii_kR_firstSegment hσ _
  try simp (disch := omega) only [w32_of, w64_of, w8_of] at e_x_1
  refine wp_bd (P := fun rr_ => (0 ≤ rr_.2 ∧ rr_.2 ≤ 4200)) ?_ ?_
  · refine wp_whl (fun ss_ => (0 ≤ ss_.2 ∧ ss_.2 ≤ 4200)) (fun ss_ => (4201 - ss_.2).toNat) (by (try dsimp only) <;> first | assumption | omega | ((try simp (disch := omega) only [w32_of, w64_of, w8_of]) <;> first | assumption | omega | (split <;> omega) | (refine And.intro ?_ ?_ <;> split <;> omega)) | omega) ?_
    rintro ⟨on_3, i_4⟩ y3
    try dsimp only at y3 ⊢
    have g2 := y3
    have c4 := w32_rng (ring_0 + 1)
    refine wp_rdI (by (try dsimp only) <;> first | assumption | omega | ((try simp (disch := omega) only [w32_of, w64_of, w8_of]) <;> first | assumption | omega | (split <;> omega) | (refine And.intro ?_ ?_ <;> split <;> omega)) | omega) (by (try dsimp only) <;> first | assumption | omega | ((try simp (disch := omega) only [w32_of, w64_of, w8_of]) <;> first | assumption | omega | (split <;> omega) | (refine And.intro ?_ ?_ <;> split <;> omega)) | omega) (fun x_20 e_x_20 => ?_)
    have b_x_20 : 0 ≤ x_20 ∧ x_20 ≤ 4200 := by rw [e_x_20]; exact ii_kR_firstSegment hσ _
    try simp (disch := omega) only [w32_of, w64_of, w8_of] at e_x_20
    have c6 := w32_rng i_4
    have c7 := w32_rng x_20
    refine wp_if (fun c5 => ?_) (fun c5 => ?_)
    · try simp (disch := omega) only [w32_of, w64_of, w8_of, decide_eq_true_eq, decide_eq_false_iff_not, Bool.not_eq_true] at c5
      refine wp_if (fun c8 => ?_) (fun c8 => ?_)
      · try simp (disch := omega) only [w32_of, w64_of, w8_of, decide_eq_true_eq, decide_eq_false_iff_not, Bool.not_eq_true] at c8
        exact wp_some (x_inr (by (try dsimp only) <;> first | assumption | omega | ((try simp (disch := omega) only [w32_of, w64_of, w8_of]) <;> first | assumption | omega | (split <;> omega) | (refine And.intro ?_ ?_ <;> split <;> omega)) | omega))
      · try simp (disch := omega) only [w32_of, w64_of, w8_of, decide_eq_true_eq, decide_eq_false_iff_not, Bool.not_eq_true] at c8
        refine wp_bd (s_R_isOn (σ := σ) (i_0 := i_4) (x_0 := x_0) (y_0 := y_0) hσ (by (try dsimp only) <;> first | assumption | omega | ((try simp (disch := omega) only [w32_of, w64_of, w8_of]) <;> first | assumption | omega | (split <;> omega) | (refine And.intro ?_ ?_ <;> split <;> omega)) | omega) (by (try dsimp only) <;> first | assumption | omega | ((try simp (disch := omega) only [w32_of, w64_of, w8_of]) <;> first | assumption | omega | (split <;> omega) | (refine And.intro ?_ ?_ <;> split <;> omega)) | omega) (by (try dsimp only) <;> first | assumption | omega | ((try simp (disch := omega) only [w32_of, w64_of, w8_of]) <;> first | assumption | omega | (split <;> omega) | (refine And.intro ?_ ?_ <;> split <;> omega)) | omega)) ?_
        rintro x_26 - -
        exact wp_some (x_inl ⟨(by (try dsimp only) <;> first | assumption | omega | ((try simp (disch := omega) only [w32_of, w64_of, w8_of]) <;> first | assumption | omega | (split <;> omega) | (refine And.intro ?_ ?_ <;> split <;> omega)) | omega), (by (try dsimp only) <;> first | assumption | omega | ((try simp (disch := omega) only [w32_of, w64_of, w8_of]) <;> first | assumption | omega | (split <;> omega) | (refine And.intro ?_ ?_ <;> split <;> omega)) | omega)⟩)
    · try simp (disch := omega) only [w32_of, w64_of, w8_of, decide_eq_true_eq, decide_eq_false_iff_not, Bool.not_eq_true] at c5
      exact wp_some (x_inr (by (try dsimp only) <;> first | assumption | omega | ((try simp (disch := omega) only [w32_of, w64_of, w8_of]) <;> first | assumption | omega | (split <;> omega) | (refine And.intro ?_ ?_ <;> split <;> omega)) | omega))
  rintro ⟨on_29, i_30⟩ _ y11
  try dsimp only at y11 ⊢
  have g10 := y11
  exact wp_some trivial
theorem s_R_liesIn {σ : SG} {ring_0 : Int} {other_0 : Int} (hσ : II σ) (qring_0 : 0 ≤ ring_0 ∧ ring_0 ≤ 2048) (qother_0 : 0 ≤ other_0 ∧ other_0 ≤ 2048) (w0 : JTb σ) (w1 : ring_0 < σ kR_ringMany 0) (w2 : other_0 < σ kR_ringMany 0) : wp_ (fR_liesIn σ ring_0 other_0) (fun zz_ => True) := by
  unfold fR_liesIn
  have c1 := ii_kR_ringMany hσ 0
  have w0c := w0
  obtain ⟨jG, jR, jS, jF, jO⟩ := w0c
  have jR0 := ii_kR_ringMany hσ 0
  have jS0 := ii_kR_segments hσ 0
  have jf1 := jF ring_0 (by omega) (by omega)
  have c2 := w32_rng ring_0
  refine wp_rdI (by (try dsimp only) <;> first | assumption | omega | ((try simp (disch := omega) only [w32_of, w64_of, w8_of]) <;> first | assumption | omega | (split <;> omega) | (refine And.intro ?_ ?_ <;> split <;> omega)) | omega) (by (try dsimp only) <;> first | assumption | omega | ((try simp (disch := omega) only [w32_of, w64_of, w8_of]) <;> first | assumption | omega | (split <;> omega) | (refine And.intro ?_ ?_ <;> split <;> omega)) | omega) (fun x_1 e_x_1 => ?_)
  have b_x_1 : 0 ≤ x_1 ∧ x_1 ≤ 4200 := by rw [e_x_1]; exact ii_kR_firstSegment hσ _
  try simp (disch := omega) only [w32_of, w64_of, w8_of] at e_x_1
  refine wp_bx (P := fun rr_ => (0 ≤ rr_ ∧ rr_ ≤ 4200)) ?_ ?_
  · refine wp_whl (fun ss_ => (0 ≤ ss_ ∧ ss_ ≤ 4200)) (fun ss_ => (4201 - ss_).toNat) (by (try dsimp only) <;> first | assumption | omega | ((try simp (disch := omega) only [w32_of, w64_of, w8_of]) <;> first | assumption | omega | (split <;> omega) | (refine And.intro ?_ ?_ <;> split <;> omega)) | omega) ?_
    rintro i_3 g3
    have c4 := w32_rng (ring_0 + 1)
    refine wp_rdI (by (try dsimp only) <;> first | assumption | omega | ((try simp (disch := omega) only [w32_of, w64_of, w8_of]) <;> first | assumption | omega | (split <;> omega) | (refine And.intro ?_ ?_ <;> split <;> omega)) | omega) (by (try dsimp only) <;> first | assumption | omega | ((try simp (disch := omega) only [w32_of, w64_of, w8_of]) <;> first | assumption | omega | (split <;> omega) | (refine And.intro ?_ ?_ <;> split <;> omega)) | omega) (fun x_11 e_x_11 => ?_)
    have b_x_11 : 0 ≤ x_11 ∧ x_11 ≤ 4200 := by rw [e_x_11]; exact ii_kR_firstSegment hσ _
    try simp (disch := omega) only [w32_of, w64_of, w8_of] at e_x_11
    have c6 := w32_rng i_3
    have c7 := w32_rng x_11
    refine wp_if (fun c5 => ?_) (fun c5 => ?_)
    · try simp (disch := omega) only [w32_of, w64_of, w8_of, decide_eq_true_eq, decide_eq_false_iff_not, Bool.not_eq_true] at c5
      refine wp_rdI (by (try dsimp only) <;> first | assumption | omega | ((try simp (disch := omega) only [w32_of, w64_of, w8_of]) <;> first | assumption | omega | (split <;> omega) | (refine And.intro ?_ ?_ <;> split <;> omega)) | omega) (by (try dsimp only) <;> first | assumption | omega | ((try simp (disch := omega) only [w32_of, w64_of, w8_of]) <;> first | assumption | omega | (split <;> omega) | (refine And.intro ?_ ?_ <;> split <;> omega)) | omega) (fun x_14 e_x_14 => ?_)
      have b_x_14 : (-1000000000) ≤ x_14 ∧ x_14 ≤ 1000000000 := by rw [e_x_14]; exact ii_kR_sx hσ _
      try simp (disch := omega) only [w32_of, w64_of, w8_of] at e_x_14
      refine wp_rdI (by (try dsimp only) <;> first | assumption | omega | ((try simp (disch := omega) only [w32_of, w64_of, w8_of]) <;> first | assumption | omega | (split <;> omega) | (refine And.intro ?_ ?_ <;> split <;> omega)) | omega) (by (try dsimp only) <;> first | assumption | omega | ((try simp (disch := omega) only [w32_of, w64_of, w8_of]) <;> first | assumption | omega | (split <;> omega) | (refine And.intro ?_ ?_ <;> split <;> omega)) | omega) (fun x_16 e_x_16 => ?_)
      have b_x_16 : (-1000000000) ≤ x_16 ∧ x_16 ≤ 1000000000 := by rw [e_x_16]; exact ii_kR_sy hσ _
      try simp (disch := omega) only [w32_of, w64_of, w8_of] at e_x_16
      refine wp_bd (s_R_isOnRing (σ := σ) (x_0 := x_14) (y_0 := x_16) (ring_0 := other_0) hσ (by (try dsimp only) <;> first | assumption | omega | ((try simp (disch := omega) only [w32_of, w64_of, w8_of]) <;> first | assumption | omega | (split <;> omega) | (refine And.intro ?_ ?_ <;> split <;> omega)) | omega) (by (try dsimp only) <;> first | assumption | omega | ((try simp (disch := omega) only [w32_of, w64_of, w8_of]) <;> first | assumption | omega | (split <;> omega) | (refine And.intro ?_ ?_ <;> split <;> omega)) | omega) (by (try dsimp only) <;> first | assumption | omega | ((try simp (disch := omega) only [w32_of, w64_of, w8_of]) <;> first | assumption | omega | (split <;> omega) | (refine And.intro ?_ ?_ <;> split <;> omega)) | omega) (by (try dsimp only) <;> first | assumption | omega | ((try simp (disch := omega) only [w32_of, w64_of, w8_of]) <;> first | assumption | omega | (split <;> omega) | (refine And.intro ?_ ?_ <;> split <;> omega)) | omega)) ?_
      rintro x_19 - -
      refine wp_if (fun c9 => ?_) (fun c9 => ?_)
      · try simp (disch := omega) only [w32_of, w64_of, w8_of, decide_eq_true_eq, decide_eq_false_iff_not, Bool.not_eq_true] at c9
        exact wp_some (x_inl ⟨(by (try dsimp only) <;> first | assumption | omega | ((try simp (disch := omega) only [w32_of, w64_of, w8_of]) <;> first | assumption | omega | (split <;> omega) | (refine And.intro ?_ ?_ <;> split <;> omega)) | omega), (by (try dsimp only) <;> first | assumption | omega | ((try simp (disch := omega) only [w32_of, w64_of, w8_of]) <;> first | assumption | omega | (split <;> omega) | (refine And.intro ?_ ?_ <;> split <;> omega)) | omega)⟩)
      · try simp (disch := omega) only [w32_of, w64_of, w8_of, decide_eq_true_eq, decide_eq_false_iff_not, Bool.not_eq_true] at c9
        refine wp_rdI (by (try dsimp only) <;> first | assumption | omega | ((try simp (disch := omega) only [w32_of, w64_of, w8_of]) <;> first | assumption | omega | (split <;> omega) | (refine And.intro ?_ ?_ <;> split <;> omega)) | omega) (by (try dsimp only) <;> first | assumption | omega | ((try simp (disch := omega) only [w32_of, w64_of, w8_of]) <;> first | assumption | omega | (split <;> omega) | (refine And.intro ?_ ?_ <;> split <;> omega)) | omega) (fun x_22 e_x_22 => ?_)
        have b_x_22 : (-1000000000) ≤ x_22 ∧ x_22 ≤ 1000000000 := by rw [e_x_22]; exact ii_kR_sx hσ _
        try simp (disch := omega) only [w32_of, w64_of, w8_of] at e_x_22
        refine wp_rdI (by (try dsimp only) <;> first | assumption | omega | ((try simp (disch := omega) only [w32_of, w64_of, w8_of]) <;> first | assumption | omega | (split <;> omega) | (refine And.intro ?_ ?_ <;> split <;> omega)) | omega) (by (try dsimp only) <;> first | assumption | omega | ((try simp (disch := omega) only [w32_of, w64_of, w8_of]) <;> first | assumption | omega | (split <;> omega) | (refine And.intro ?_ ?_ <;> split <;> omega)) | omega) (fun x_24 e_x_24 => ?_)
        have b_x_24 : (-1000000000) ≤ x_24 ∧ x_24 ≤ 1000000000 := by rw [e_x_24]; exact ii_kR_sy hσ _
        try simp (disch := omega) only [w32_of, w64_of, w8_of] at e_x_24
        refine wp_bd (s_R_isWithin (σ := σ) (x_0 := x_22) (y_0 := x_24) (ring_0 := other_0) (dx_0 := 0) (dy_0 := 0) hσ (by (try dsimp only) <;> first | assumption | omega | ((try simp (disch := omega) only [w32_of, w64_of, w8_of]) <;> first | assumption | omega | (split <;> omega) | (refine And.intro ?_ ?_ <;> split <;> omega)) | omega) (by (try dsimp only) <;> first | assumption | omega | ((try simp (disch := omega) only [w32_of, w64_of, w8_of]) <;> first | assumption | omega | (split <;> omega) | (refine And.intro ?_ ?_ <;> split <;> omega)) | omega) (by (try dsimp only) <;> first | assumption | omega | ((try simp (disch := omega) only [w32_of, w64_of, w8_of]) <;> first | assumption | omega | (split <;> omega) | (refine And.intro ?_ ?_ <;> split <;> omega)) | omega) (by (try dsimp only) <;> first | assumption | omega | ((try simp (disch := omega) only [w32_of, w64_of, w8_of]) <;> first | assumption | omega | (split <;> omega) | (refine And.intro ?_ ?_ <;> split <;> omega)) | omega) (by (try dsimp only) <;> first | assumption | omega | ((try simp (disch := omega) only [w32_of, w64_of, w8_of]) <;> first | assumption | omega | (split <;> omega) | (refine And.intro ?_ ?_ <;> split <;> omega)) | omega) (by (try dsimp only) <;> first | assumption | omega | ((try simp (disch := omega) only [w32_of, w64_of, w8_of]) <;> first | assumption | omega | (split <;> omega) | (refine And.intro ?_ ?_ <;> split <;> omega)) | omega)) ?_
        rintro x_27 - -
        exact wp_some (x_inr (x_inr trivial))
    · try simp (disch := omega) only [w32_of, w64_of, w8_of, decide_eq_true_eq, decide_eq_false_iff_not, Bool.not_eq_true] at c5
      exact wp_some (x_inr (x_inl (by (try dsimp only) <;> first | assumption | omega | ((try simp (disch := omega) only [w32_of, w64_of, w8_of]) <;> first | assumption | omega | (split <;> omega) | (refine And.intro ?_ ?_ <;> split <;> omega)) | omega)))
  rintro i_29 g11
  have c12 := w32_rng x_1
  refine wp_rdI (by (try dsimp only) <;> first | assumption | omega | ((try simp (disch := omega) only [w32_of, w64_of, w8_of]) <;> first | assumption | omega | (split <;> omega) | (refine And.intro ?_ ?_ <;> split <;> omega)) | omega) (by (try dsimp only) <;> first | assumption | omega | ((try simp (disch := omega) only [w32_of, w64_of, w8_of]) <;> first | assumption | omega | (split <;> omega) | (refine And.intro ?_ ?_ <;> split <;> omega)) | omega) (fun x_30 e_x_30 => ?_)
  have b_x_30 : (-1000000000) ≤ x_30 ∧ x_30 ≤ 1000000000 := by rw [e_x_30]; exact ii_kR_sx hσ _
  try simp (disch := omega) only [w32_of, w64_of, w8_of] at e_x_30
  refine wp_rdI (by (try dsimp only) <;> first | assumption | omega | ((try simp (disch := omega) only [w32_of, w64_of, w8_of]) <;> first | assumption | omega | (split <;> omega) | (refine And.intro ?_ ?_ <;> split <;> omega)) | omega) (by (try dsimp only) <;> first | assumption | omega | ((try simp (disch := omega) only [w32_of, w64_of, w8_of]) <;> first | assumption | omega | (split <;> omega) | (refine And.intro ?_ ?_ <;> split <;> omega)) | omega) (fun x_32 e_x_32 => ?_)
  have b_x_32 : (-1000000000) ≤ x_32 ∧ x_32 ≤ 1000000000 := by rw [e_x_32]; exact ii_kR_sy hσ _
  try simp (disch := omega) only [w32_of, w64_of, w8_of] at e_x_32
  refine wp_rdI (by (try dsimp only) <;> first | assumption | omega | ((try simp (disch := omega) only [w32_of, w64_of, w8_of]) <;> first | assumption | omega | (split <;> omega) | (refine And.intro ?_ ?_ <;> split <;> omega)) | omega) (by (try dsimp only) <;> first | assumption | omega | ((try simp (disch := omega) only [w32_of, w64_of, w8_of]) <;> first | assumption | omega | (split <;> omega) | (refine And.intro ?_ ?_ <;> split <;> omega)) | omega) (fun x_34 e_x_34 => ?_)
  have b_x_34 : (-1000000000) ≤ x_34 ∧ x_34 ≤ 1000000000 := by rw [e_x_34]; exact ii_kR_ex hσ _
  try simp (disch := omega) only [w32_of, w64_of, w8_of] at e_x_34
  refine wp_rdI (by (try dsimp only) <;> first | assumption | omega | ((try simp (disch := omega) only [w32_of, w64_of, w8_of]) <;> first | assumption | omega | (split <;> omega) | (refine And.intro ?_ ?_ <;> split <;> omega)) | omega) (by (try dsimp only) <;> first | assumption | omega | ((try simp (disch := omega) only [w32_of, w64_of, w8_of]) <;> first | assumption | omega | (split <;> omega) | (refine And.intro ?_ ?_ <;> split <;> omega)) | omega) (fun x_36 e_x_36 => ?_)
  have b_x_36 : (-1000000000) ≤ x_36 ∧ x_36 ≤ 1000000000 := by rw [e_x_36]; exact ii_kR_sx hσ _
  try simp (disch := omega) only [w32_of, w64_of, w8_of] at e_x_36
  refine wp_rdI (by (try dsimp only) <;> first | assumption | omega | ((try simp (disch := omega) only [w32_of, w64_of, w8_of]) <;> first | assumption | omega | (split <;> omega) | (refine And.intro ?_ ?_ <;> split <;> omega)) | omega) (by (try dsimp only) <;> first | assumption | omega | ((try simp (disch := omega) only [w32_of, w64_of, w8_of]) <;> first | assumption | omega | (split <;> omega) | (refine And.intro ?_ ?_ <;> split <;> omega)) | omega) (fun x_38 e_x_38 => ?_)
  have b_x_38 : (-1000000000) ≤ x_38 ∧ x_38 ≤ 1000000000 := by rw [e_x_38]; exact ii_kR_ey hσ _
  try simp (disch := omega) only [w32_of, w64_of, w8_of] at e_x_38
  refine wp_rdI (by (try dsimp only) <;> first | assumption | omega | ((try simp (disch := omega) only [w32_of, w64_of, w8_of]) <;> first | assumption | omega | (split <;> omega) | (refine And.intro ?_ ?_ <;> split <;> omega)) | omega) (by (try dsimp only) <;> first | assumption | omega | ((try simp (disch := omega) only [w32_of, w64_of, w8_of]) <;> first | assumption | omega | (split <;> omega) | (refine And.intro ?_ ?_ <;> split <;> omega)) | omega) (fun x_40 e_x_40 => ?_)
  have b_x_40 : (-1000000000) ≤ x_40 ∧ x_40 ≤ 1000000000 := by rw [e_x_40]; exact ii_kR_sy hσ _
  try simp (disch := omega) only [w32_of, w64_of, w8_of] at e_x_40
  refine wp_bd (s_R_isWithin (σ := σ) (x_0 := x_30) (y_0 := x_32) (ring_0 := other_0) (dx_0 := (x_34 - x_36)) (dy_0 := (x_38 - x_40)) hσ (by (try dsimp only) <;> first | assumption | omega | ((try simp (disch := omega) only [w32_of, w64_of, w8_of]) <;> first | assumption | omega | (split <;> omega) | (refine And.intro ?_ ?_ <;> split <;> omega)) | omega) (by (try dsimp only) <;> first | assumption | omega | ((try simp (disch := omega) only [w32_of, w64_of, w8_of]) <;> first | assumption | omega | (split <;> omega) | (refine And.intro ?_ ?_ <;> split <;> omega)) | omega) (by (try dsimp only) <;> first | assumption | omega | ((try simp (disch := omega) only [w32_of, w64_of, w8_of]) <;> first | assumption | omega | (split <;> omega) | (refine And.intro ?_ ?_ <;> split <;> omega)) | omega) (by (try dsimp only) <;> first | assumption | omega | ((try simp (disch := omega) only [w32_of, w64_of, w8_of]) <;> first | assumption | omega | (split <;> omega) | (refine And.intro ?_ ?_ <;> split <;> omega)) | omega) (by (try dsimp only) <;> first | assumption | omega | ((try simp (disch := omega) only [w32_of, w64_of, w8_of]) <;> first | assumption | omega | (split <;> omega) | (refine And.intro ?_ ?_ <;> split <;> omega)) | omega) (by (try dsimp only) <;> first | assumption | omega | ((try simp (disch := omega) only [w32_of, w64_of, w8_of]) <;> first | assumption | omega | (split <;> omega) | (refine And.intro ?_ ?_ <;> split <;> omega)) | omega)) ?_
  rintro x_43 - -
  exact wp_some trivial
theorem s_R_judgePart {σ : SG} {part_0 : Int} (hσ : II σ) (qpart_0 : 0 ≤ part_0 ∧ part_0 ≤ 1024) (w0 : JTb σ) (w1 : part_0 < σ kR_partMany 0) : wp_ (fR_judgePart σ part_0) (fun zz_ => (0 ≤ zz_.1 ∧ zz_.1 ≤ 15) ∧ II zz_.2 ∧ FR [kR_isInner, kR_joined, kR_meetX, kR_meetY, kR_passRing, kR_passTouch, kR_passes, kR_place, kR_touchMany, kR_touchX, kR_touchY] σ zz_.2) := by
  unfold fR_judgePart
  have c1 := ii_kR_partMany hσ 0
  have w0c := w0
  obtain ⟨jG, jR, jS, jF, jO⟩ := w0c
  have jR0 := ii_kR_ringMany hσ 0
  have jS0 := ii_kR_segments hσ 0
  have jp1 := jG.2.1 part_0 (by omega) (by omega) (by omega)
  have jp2 := jG.2.1 (part_0 + 1) (by omega) (by omega) (by omega)
  have c2 := w32_rng part_0
  refine wp_rdI (by (try dsimp only) <;> first | assumption | omega | ((try simp (disch := omega) only [w32_of, w64_of, w8_of]) <;> first | assumption | omega | (split <;> omega) | (refine And.intro ?_ ?_ <;> split <;> omega)) | omega) (by (try dsimp only) <;> first | assumption | omega | ((try simp (disch := omega) only [w32_of, w64_of, w8_of]) <;> first | assumption | omega | (split <;> omega) | (refine And.intro ?_ ?_ <;> split <;> omega)) | omega) (fun x_1 e_x_1 => ?_)
  have b_x_1 : 0 ≤ x_1 ∧ x_1 ≤ 2048 := by rw [e_x_1]; exact ii_kR_partFrom hσ _
  try simp (disch := omega) only [w32_of, w64_of, w8_of] at e_x_1
  have c3 := w32_rng (part_0 + 1)
  refine wp_rdI (by (try dsimp only) <;> first | assumption | omega | ((try simp (disch := omega) only [w32_of, w64_of, w8_of]) <;> first | assumption | omega | (split <;> omega) | (refine And.intro ?_ ?_ <;> split <;> omega)) | omega) (by (try dsimp only) <;> first | assumption | omega | ((try simp (disch := omega) only [w32_of, w64_of, w8_of]) <;> first | assumption | omega | (split <;> omega) | (refine And.intro ?_ ?_ <;> split <;> omega)) | omega) (fun x_3 e_x_3 => ?_)
  have b_x_3 : 0 ≤ x_3 ∧ x_3 ≤ 2048 := by rw [e_x_3]; exact ii_kR_partFrom hσ _
  try simp (disch := omega) only [w32_of, w64_of, w8_of] at e_x_3
  refine wp_bx (P := fun rr_ => (0 ≤ rr_.1 ∧ rr_.1 ≤ 2048) ∧ II rr_.2 ∧ FR [kR_isInner, kR_joined, kR_meetX, kR_meetY, kR_passRing, kR_passTouch, kR_passes, kR_place, kR_touchMany, kR_touchX, kR_touchY] σ rr_.2) ?_ ?_
  · refine wp_whl (fun ss_ => (0 ≤ ss_.1 ∧ ss_.1 ≤ 2048) ∧ II ss_.2 ∧ FR [kR_isInner, kR_joined, kR_meetX, kR_meetY, kR_passRing, kR_passTouch, kR_passes, kR_place, kR_touchMany, kR_touchX, kR_touchY] σ ss_.2) (fun ss_ => (2049 - ss_.1).toNat) ⟨(by (try dsimp only) <;> first | assumption | omega | ((try simp (disch := omega) only [w32_of, w64_of, w8_of]) <;> first | assumption | omega | (split <;> omega) | (refine And.intro ?_ ?_ <;> split <;> omega)) | omega), hσ, (FR_refl _ _)⟩ ?_
    rintro ⟨r_5, σ_6⟩ y5
    try dsimp only at y5 ⊢
    obtain ⟨g4, hσ_6, frσ_6⟩ := y5
    have c7 := w32_rng r_5
    have c8 := w32_rng x_3
    refine wp_if (fun c6 => ?_) (fun c6 => ?_)
    · try simp (disch := omega) only [w32_of, w64_of, w8_of, decide_eq_true_eq, decide_eq_false_iff_not, Bool.not_eq_true] at c6
      have hrz := jG.1 r_5 (by omega) (by omega)
      refine wp_rdI (by (try dsimp only) <;> first | assumption | omega | ((try simp (disch := omega) only [w32_of, w64_of, w8_of]) <;> first | assumption | omega | (split <;> omega) | (refine And.intro ?_ ?_ <;> split <;> omega)) | omega) (by (try dsimp only) <;> first | assumption | omega | ((try simp (disch := omega) only [w32_of, w64_of, w8_of]) <;> first | assumption | omega | (split <;> omega) | (refine And.intro ?_ ?_ <;> split <;> omega)) | omega) (fun x_15 e_x_15 => ?_)
      have b_x_15 : 0 ≤ x_15 ∧ x_15 ≤ 67584 := by rw [e_x_15]; exact ii_kR_ringFrom hσ_6 _
      rw [FR_at frσ_6 (c := kR_ringFrom) (by decide)] at e_x_15
      try simp (disch := omega) only [w32_of, w64_of, w8_of] at e_x_15
      refine wp_rdI (by (try dsimp only) <;> first | assumption | omega | ((try simp (disch := omega) only [w32_of, w64_of, w8_of]) <;> first | assumption | omega | (split <;> omega) | (refine And.intro ?_ ?_ <;> split <;> omega)) | omega) (by (try dsimp only) <;> first | assumption | omega | ((try simp (disch := omega) only [w32_of, w64_of, w8_of]) <;> first | assumption | omega | (split <;> omega) | (refine And.intro ?_ ?_ <;> split <;> omega)) | omega) (fun x_31 e_x_31 => ?_)
      have b_x_31 : 0 ≤ x_31 ∧ x_31 ≤ 2048 := by rw [e_x_31]; exact ii_kR_ringSize hσ_6 _
      rw [FR_at frσ_6 (c := kR_ringSize) (by decide)] at e_x_31
      try simp (disch := omega) only [w32_of, w64_of, w8_of] at e_x_31
      have c10 := w32_rng x_31
      refine wp_if (fun c9 => ?_) (fun c9 => ?_)
      · try simp (disch := omega) only [w32_of, w64_of, w8_of, decide_eq_true_eq, decide_eq_false_iff_not, Bool.not_eq_true] at c9
        refine wp_bd (s_R_tellRing (σ := σ_6) (fault_0 := 1) (r_0 := r_5) hσ_6 (by (try dsimp only) <;> first | assumption | omega | ((try simp (disch := omega) only [w32_of, w64_of, w8_of]) <;> first | assumption | omega | (split <;> omega) | (refine And.intro ?_ ?_ <;> split <;> omega)) | omega) (by (try dsimp only) <;> first | assumption | omega | ((try simp (disch := omega) only [w32_of, w64_of, w8_of]) <;> first | assumption | omega | (split <;> omega) | (refine And.intro ?_ ?_ <;> split <;> omega)) | omega) (by (try dsimp only) <;> first | assumption | omega | ((try simp (disch := omega) only [w32_of, w64_of, w8_of]) <;> first | assumption | omega | (split <;> omega) | (refine And.intro ?_ ?_ <;> split <;> omega)) | omega)) ?_
        rintro ⟨x_36, σ_35⟩ - y12
        try dsimp only at y12 ⊢
        obtain ⟨g11, hσ_35, flσ_35⟩ := y12
        have frσ_35 : FR [kR_isInner, kR_joined, kR_meetX, kR_meetY, kR_passRing, kR_passTouch, kR_passes, kR_place, kR_touchMany, kR_touchX, kR_touchY] σ σ_35 := FR_tr frσ_6 flσ_35 (by decide) (by decide)
        try simp (disch := omega) only [w32_of, w64_of, w8_of] at g11
        exact wp_some (x_inr (x_inr ⟨(by (try dsimp only) <;> first | assumption | omega | ((try simp (disch := omega) only [w32_of, w64_of, w8_of]) <;> first | assumption | omega | (split <;> omega) | (refine And.intro ?_ ?_ <;> split <;> omega)) | omega), hσ_35, frσ_35⟩))
      · try simp (disch := omega) only [w32_of, w64_of, w8_of, decide_eq_true_eq, decide_eq_false_iff_not, Bool.not_eq_true] at c9
        refine wp_rdI (by (try dsimp only) <;> first | assumption | omega | ((try simp (disch := omega) only [w32_of, w64_of, w8_of]) <;> first | assumption | omega | (split <;> omega) | (refine And.intro ?_ ?_ <;> split <;> omega)) | omega) (by (try dsimp only) <;> first | assumption | omega | ((try simp (disch := omega) only [w32_of, w64_of, w8_of]) <;> first | assumption | omega | (split <;> omega) | (refine And.intro ?_ ?_ <;> split <;> omega)) | omega) (fun x_37 e_x_37 => ?_)
        have b_x_37 : 0 ≤ x_37 ∧ x_37 ≤ 2048 := by rw [e_x_37]; exact ii_kR_ringSize hσ_6 _
        rw [FR_at frσ_6 (c := kR_ringSize) (by decide)] at e_x_37
        try simp (disch := omega) only [w32_of, w64_of, w8_of] at e_x_37
        refine wp_bd (v_isSame (τ := σ_6) (p := x_15) (q := ((x_15 + x_37) - 1)) hσ_6 (by (try dsimp only) <;> first | assumption | omega | ((try simp (disch := omega) only [w32_of, w64_of, w8_of]) <;> first | assumption | omega | (split <;> omega) | (refine And.intro ?_ ?_ <;> split <;> omega)) | omega) (by (try dsimp only) <;> first | assumption | omega | ((try simp (disch := omega) only [w32_of, w64_of, w8_of]) <;> first | assumption | omega | (split <;> omega) | (refine And.intro ?_ ?_ <;> split <;> omega)) | omega) (by (try dsimp only) <;> first | assumption | omega | ((try simp (disch := omega) only [w32_of, w64_of, w8_of]) <;> first | assumption | omega | (split <;> omega) | (refine And.intro ?_ ?_ <;> split <;> omega)) | omega) (by (try dsimp only) <;> first | assumption | omega | ((try simp (disch := omega) only [w32_of, w64_of, w8_of]) <;> first | assumption | omega | (split <;> omega) | (refine And.intro ?_ ?_ <;> split <;> omega)) | omega)) ?_
        rintro x_40 - g13
        have c14 := ii_kR_xs hσ_6 x_15
        have c15 := FR_at frσ_6 (c := kR_xs) (by decide) x_15
        have c16 := ii_kR_xs hσ x_15
        have c17 := ii_kR_xs hσ_6 ((x_15 + x_37) - 1)
        have c18 := FR_at frσ_6 (c := kR_xs) (by decide) ((x_15 + x_37) - 1)
        have c19 := ii_kR_xs hσ ((x_15 + x_37) - 1)
        have c20 := ii_kR_ys hσ_6 x_15
        have c21 := FR_at frσ_6 (c := kR_ys) (by decide) x_15
        have c22 := ii_kR_ys hσ x_15
        have c23 := ii_kR_ys hσ_6 ((x_15 + x_37) - 1)
        have c24 := FR_at frσ_6 (c := kR_ys) (by decide) ((x_15 + x_37) - 1)
        have c25 := ii_kR_ys hσ ((x_15 + x_37) - 1)
        try simp (disch := omega) only [w32_of, w64_of, w8_of] at g13
        refine wp_if (fun c26 => ?_) (fun c26 => ?_)
        · have k27 := g13.mp c26
          try simp (disch := omega) only [w32_of, w64_of, w8_of] at k27
          try simp (disch := omega) only [w32_of, w64_of, w8_of, decide_eq_true_eq, decide_eq_false_iff_not, Bool.not_eq_true] at c26
          refine wp_rdI (by (try dsimp only) <;> first | assumption | omega | ((try simp (disch := omega) only [w32_of, w64_of, w8_of]) <;> first | assumption | omega | (split <;> omega) | (refine And.intro ?_ ?_ <;> split <;> omega)) | omega) (by (try dsimp only) <;> first | assumption | omega | ((try simp (disch := omega) only [w32_of, w64_of, w8_of]) <;> first | assumption | omega | (split <;> omega) | (refine And.intro ?_ ?_ <;> split <;> omega)) | omega) (fun x_42 e_x_42 => ?_)
          have b_x_42 : 0 ≤ x_42 ∧ x_42 ≤ 2048 := by rw [e_x_42]; exact ii_kR_ringSize hσ_6 _
          rw [FR_at frσ_6 (c := kR_ringSize) (by decide)] at e_x_42
          try simp (disch := omega) only [w32_of, w64_of, w8_of] at e_x_42
          refine wp_bd (s_R_different (σ := σ_6) (from_0 := x_15) (n_0 := x_42) hσ_6 (by (try dsimp only) <;> first | assumption | omega | ((try simp (disch := omega) only [w32_of, w64_of, w8_of]) <;> first | assumption | omega | (split <;> omega) | (refine And.intro ?_ ?_ <;> split <;> omega)) | omega) (by (try dsimp only) <;> first | assumption | omega | ((try simp (disch := omega) only [w32_of, w64_of, w8_of]) <;> first | assumption | omega | (split <;> omega) | (refine And.intro ?_ ?_ <;> split <;> omega)) | omega) (by (try dsimp only) <;> first | assumption | omega | ((try simp (disch := omega) only [w32_of, w64_of, w8_of]) <;> first | assumption | omega | (split <;> omega) | (refine And.intro ?_ ?_ <;> split <;> omega)) | omega)) ?_
          rintro x_45 - g28
          try simp (disch := omega) only [w32_of, w64_of, w8_of] at g28
          have c30 := w32_rng x_45
          refine wp_if (fun c29 => ?_) (fun c29 => ?_)
          · try simp (disch := omega) only [w32_of, w64_of, w8_of, decide_eq_true_eq, decide_eq_false_iff_not, Bool.not_eq_true] at c29
            refine wp_bd (s_R_tellRing (σ := σ_6) (fault_0 := 2) (r_0 := r_5) hσ_6 (by (try dsimp only) <;> first | assumption | omega | ((try simp (disch := omega) only [w32_of, w64_of, w8_of]) <;> first | assumption | omega | (split <;> omega) | (refine And.intro ?_ ?_ <;> split <;> omega)) | omega) (by (try dsimp only) <;> first | assumption | omega | ((try simp (disch := omega) only [w32_of, w64_of, w8_of]) <;> first | assumption | omega | (split <;> omega) | (refine And.intro ?_ ?_ <;> split <;> omega)) | omega) (by (try dsimp only) <;> first | assumption | omega | ((try simp (disch := omega) only [w32_of, w64_of, w8_of]) <;> first | assumption | omega | (split <;> omega) | (refine And.intro ?_ ?_ <;> split <;> omega)) | omega)) ?_
            rintro ⟨x_49, σ_48⟩ - y32
            try dsimp only at y32 ⊢
            obtain ⟨g31, hσ_48, flσ_48⟩ := y32
            have frσ_48 : FR [kR_isInner, kR_joined, kR_meetX, kR_meetY, kR_passRing, kR_passTouch, kR_passes, kR_place, kR_touchMany, kR_touchX, kR_touchY] σ σ_48 := FR_tr frσ_6 flσ_48 (by decide) (by decide)
            try simp (disch := omega) only [w32_of, w64_of, w8_of] at g31
            exact wp_some (x_inr (x_inr ⟨(by (try dsimp only) <;> first | assumption | omega | ((try simp (disch := omega) only [w32_of, w64_of, w8_of]) <;> first | assumption | omega | (split <;> omega) | (refine And.intro ?_ ?_ <;> split <;> omega)) | omega), hσ_48, frσ_48⟩))
          · try simp (disch := omega) only [w32_of, w64_of, w8_of, decide_eq_true_eq, decide_eq_false_iff_not, Bool.not_eq_true] at c29
            exact wp_some (x_inl ⟨⟨(by (try dsimp only) <;> first | assumption | omega | ((try simp (disch := omega) only [w32_of, w64_of, w8_of]) <;> first | assumption | omega | (split <;> omega) | (refine And.intro ?_ ?_ <;> split <;> omega)) | omega), hσ_6, frσ_6⟩, (by (try dsimp only) <;> first | assumption | omega | ((try simp (disch := omega) only [w32_of, w64_of, w8_of]) <;> first | assumption | omega | (split <;> omega) | (refine And.intro ?_ ?_ <;> split <;> omega)) | omega)⟩)
        · have k33 := fun q => c26 (g13.mpr q)
          try simp (disch := omega) only [w32_of, w64_of, w8_of] at k33
          try simp (disch := omega) only [w32_of, w64_of, w8_of, decide_eq_true_eq, decide_eq_false_iff_not, Bool.not_eq_true] at c26
          refine wp_bd (s_R_tellRing (σ := σ_6) (fault_0 := 1) (r_0 := r_5) hσ_6 (by (try dsimp only) <;> first | assumption | omega | ((try simp (disch := omega) only [w32_of, w64_of, w8_of]) <;> first | assumption | omega | (split <;> omega) | (refine And.intro ?_ ?_ <;> split <;> omega)) | omega) (by (try dsimp only) <;> first | assumption | omega | ((try simp (disch := omega) only [w32_of, w64_of, w8_of]) <;> first | assumption | omega | (split <;> omega) | (refine And.intro ?_ ?_ <;> split <;> omega)) | omega) (by (try dsimp only) <;> first | assumption | omega | ((try simp (disch := omega) only [w32_of, w64_of, w8_of]) <;> first | assumption | omega | (split <;> omega) | (refine And.intro ?_ ?_ <;> split <;> omega)) | omega)) ?_
          rintro ⟨x_53, σ_52⟩ - y35
          try dsimp only at y35 ⊢
          obtain ⟨g34, hσ_52, flσ_52⟩ := y35
          have frσ_52 : FR [kR_isInner, kR_joined, kR_meetX, kR_meetY, kR_passRing, kR_passTouch, kR_passes, kR_place, kR_touchMany, kR_touchX, kR_touchY] σ σ_52 := FR_tr frσ_6 flσ_52 (by decide) (by decide)
          try simp (disch := omega) only [w32_of, w64_of, w8_of] at g34
          exact wp_some (x_inr (x_inr ⟨(by (try dsimp only) <;> first | assumption | omega | ((try simp (disch := omega) only [w32_of, w64_of, w8_of]) <;> first | assumption | omega | (split <;> omega) | (refine And.intro ?_ ?_ <;> split <;> omega)) | omega), hσ_52, frσ_52⟩))
    · try simp (disch := omega) only [w32_of, w64_of, w8_of, decide_eq_true_eq, decide_eq_false_iff_not, Bool.not_eq_true] at c6
      exact wp_some (x_inr (x_inl ⟨(by (try dsimp only) <;> first | assumption | omega | ((try simp (disch := omega) only [w32_of, w64_of, w8_of]) <;> first | assumption | omega | (split <;> omega) | (refine And.intro ?_ ?_ <;> split <;> omega)) | omega), hσ_6, frσ_6⟩))
  rintro ⟨r_55, σ_56⟩ y37
  try dsimp only at y37 ⊢
  obtain ⟨g36, hσ_56, frσ_56⟩ := y37
  have c38 := w32_rng x_1
  refine wp_rdI (by (try dsimp only) <;> first | assumption | omega | ((try simp (disch := omega) only [w32_of, w64_of, w8_of]) <;> first | assumption | omega | (split <;> omega) | (refine And.intro ?_ ?_ <;> split <;> omega)) | omega) (by (try dsimp only) <;> first | assumption | omega | ((try simp (disch := omega) only [w32_of, w64_of, w8_of]) <;> first | assumption | omega | (split <;> omega) | (refine And.intro ?_ ?_ <;> split <;> omega)) | omega) (fun x_57 e_x_57 => ?_)
  have b_x_57 : 0 ≤ x_57 ∧ x_57 ≤ 4200 := by rw [e_x_57]; exact ii_kR_firstSegment hσ_56 _
  rw [FR_at frσ_56 (c := kR_firstSegment) (by decide)] at e_x_57
  try simp (disch := omega) only [w32_of, w64_of, w8_of] at e_x_57
  have hx1 := jF x_1 (by omega) (by omega)
  have c39 := w32_rng x_3
  refine wp_rdI (by (try dsimp only) <;> first | assumption | omega | ((try simp (disch := omega) only [w32_of, w64_of, w8_of]) <;> first | assumption | omega | (split <;> omega) | (refine And.intro ?_ ?_ <;> split <;> omega)) | omega) (by (try dsimp only) <;> first | assumption | omega | ((try simp (disch := omega) only [w32_of, w64_of, w8_of]) <;> first | assumption | omega | (split <;> omega) | (refine And.intro ?_ ?_ <;> split <;> omega)) | omega) (fun x_59 e_x_59 => ?_)
  have b_x_59 : 0 ≤ x_59 ∧ x_59 ≤ 4200 := by rw [e_x_59]; exact ii_kR_firstSegment hσ_56 _
  rw [FR_at frσ_56 (c := kR_firstSegment) (by decide)] at e_x_59
  try simp (disch := omega) only [w32_of, w64_of, w8_of] at e_x_59
  have hx3 := jF x_3 (by omega) (by omega)
  refine wp_bx (P := fun rr_ => (0 ≤ rr_.1 ∧ rr_.1 ≤ 4200) ∧ II rr_.2 ∧ FR [kR_isInner, kR_joined, kR_meetX, kR_meetY, kR_passRing, kR_passTouch, kR_passes, kR_place, kR_touchMany, kR_touchX, kR_touchY] σ rr_.2) ?_ ?_
  · refine wp_whl (fun ss_ => (0 ≤ ss_.1 ∧ ss_.1 ≤ 4200) ∧ II ss_.2 ∧ FR [kR_isInner, kR_joined, kR_meetX, kR_meetY, kR_passRing, kR_passTouch, kR_passes, kR_place, kR_touchMany, kR_touchX, kR_touchY] σ ss_.2) (fun ss_ => (4201 - ss_.1).toNat) ⟨(by (try dsimp only) <;> first | assumption | omega | ((try simp (disch := omega) only [w32_of, w64_of, w8_of]) <;> first | assumption | omega | (split <;> omega) | (refine And.intro ?_ ?_ <;> split <;> omega)) | omega), hσ_56, frσ_56⟩ ?_
    rintro ⟨i_61, σ_62⟩ y41
    try dsimp only at y41 ⊢
    obtain ⟨g40, hσ_62, frσ_62⟩ := y41
    have c43 := w32_rng i_61
    have c44 := w32_rng x_59
    refine wp_if (fun c42 => ?_) (fun c42 => ?_)
    · try simp (disch := omega) only [w32_of, w64_of, w8_of, decide_eq_true_eq, decide_eq_false_iff_not, Bool.not_eq_true] at c42
      refine wp_bx (P := fun rr_ => (1 ≤ rr_.1 ∧ rr_.1 ≤ 4200) ∧ II rr_.2 ∧ FR [kR_isInner, kR_joined, kR_meetX, kR_meetY, kR_passRing, kR_passTouch, kR_passes, kR_place, kR_touchMany, kR_touchX, kR_touchY] σ rr_.2) ?_ ?_
      · refine wp_whl (fun ss_ => (1 ≤ ss_.1 ∧ ss_.1 ≤ 4200) ∧ II ss_.2 ∧ FR [kR_isInner, kR_joined, kR_meetX, kR_meetY, kR_passRing, kR_passTouch, kR_passes, kR_place, kR_touchMany, kR_touchX, kR_touchY] σ ss_.2) (fun ss_ => (4201 - ss_.1).toNat) ⟨(by (try dsimp only) <;> first | assumption | omega | ((try simp (disch := omega) only [w32_of, w64_of, w8_of]) <;> first | assumption | omega | (split <;> omega) | (refine And.intro ?_ ?_ <;> split <;> omega)) | omega), hσ_62, frσ_62⟩ ?_
        rintro ⟨j_71, σ_72⟩ y46
        try dsimp only at y46 ⊢
        obtain ⟨g45, hσ_72, frσ_72⟩ := y46
        have c48 := w32_rng j_71
        refine wp_if (fun c47 => ?_) (fun c47 => ?_)
        · try simp (disch := omega) only [w32_of, w64_of, w8_of, decide_eq_true_eq, decide_eq_false_iff_not, Bool.not_eq_true] at c47
          have c49 := ii_kR_segments hσ_72 0
          have c50 := FR_at frσ_72 (c := kR_segments) (by decide) 0
          have c51 := ii_kR_segments hσ 0
          refine wp_bd (s_R_wrongPair (σ := σ_72) (i_0 := i_61) (j_0 := j_71) hσ_72 (by (try dsimp only) <;> first | assumption | omega | ((try simp (disch := omega) only [w32_of, w64_of, w8_of]) <;> first | assumption | omega | (split <;> omega) | (refine And.intro ?_ ?_ <;> split <;> omega)) | omega) (by (try dsimp only) <;> first | assumption | omega | ((try simp (disch := omega) only [w32_of, w64_of, w8_of]) <;> first | assumption | omega | (split <;> omega) | (refine And.intro ?_ ?_ <;> split <;> omega)) | omega) (JTb_f frσ_72 (by decide) w0) (by (try dsimp only) <;> first | assumption | omega | ((try simp (disch := omega) only [w32_of, w64_of, w8_of]) <;> first | assumption | omega | (split <;> omega) | (refine And.intro ?_ ?_ <;> split <;> omega)) | omega) (by (try dsimp only) <;> first | assumption | omega | ((try simp (disch := omega) only [w32_of, w64_of, w8_of]) <;> first | assumption | omega | (split <;> omega) | (refine And.intro ?_ ?_ <;> split <;> omega)) | omega)) ?_
          rintro ⟨x_83, σ_82⟩ - y53
          try dsimp only at y53 ⊢
          obtain ⟨g52, hσ_82, flσ_82⟩ := y53
          have frσ_82 : FR [kR_isInner, kR_joined, kR_meetX, kR_meetY, kR_passRing, kR_passTouch, kR_passes, kR_place, kR_touchMany, kR_touchX, kR_touchY] σ σ_82 := FR_tr frσ_72 flσ_82 (by decide) (by decide)
          try simp (disch := omega) only [w32_of, w64_of, w8_of] at g52
          have c55 := w32_rng x_83
          refine wp_if (fun c54 => ?_) (fun c54 => ?_)
          · try simp (disch := omega) only [w32_of, w64_of, w8_of, decide_eq_true_eq, decide_eq_false_iff_not, Bool.not_eq_true] at c54
            have c56 := ii_kR_segments hσ_82 0
            have c57 := FR_at flσ_82 (c := kR_segments) (by decide) 0
            refine wp_bd (s_R_tellPair (σ := σ_82) (fault_0 := x_83) (i_0 := i_61) (j_0 := j_71) hσ_82 (by (try dsimp only) <;> first | assumption | omega | ((try simp (disch := omega) only [w32_of, w64_of, w8_of]) <;> first | assumption | omega | (split <;> omega) | (refine And.intro ?_ ?_ <;> split <;> omega)) | omega) (by (try dsimp only) <;> first | assumption | omega | ((try simp (disch := omega) only [w32_of, w64_of, w8_of]) <;> first | assumption | omega | (split <;> omega) | (refine And.intro ?_ ?_ <;> split <;> omega)) | omega) (by (try dsimp only) <;> first | assumption | omega | ((try simp (disch := omega) only [w32_of, w64_of, w8_of]) <;> first | assumption | omega | (split <;> omega) | (refine And.intro ?_ ?_ <;> split <;> omega)) | omega) (JTb_f frσ_82 (by decide) w0) (by (try dsimp only) <;> first | assumption | omega | ((try simp (disch := omega) only [w32_of, w64_of, w8_of]) <;> first | assumption | omega | (split <;> omega) | (refine And.intro ?_ ?_ <;> split <;> omega)) | omega) (by (try dsimp only) <;> first | assumption | omega | ((try simp (disch := omega) only [w32_of, w64_of, w8_of]) <;> first | assumption | omega | (split <;> omega) | (refine And.intro ?_ ?_ <;> split <;> omega)) | omega)) ?_
            rintro ⟨x_87, σ_86⟩ - y59
            try dsimp only at y59 ⊢
            obtain ⟨g58, hσ_86, flσ_86⟩ := y59
            have frσ_86 : FR [kR_isInner, kR_joined, kR_meetX, kR_meetY, kR_passRing, kR_passTouch, kR_passes, kR_place, kR_touchMany, kR_touchX, kR_touchY] σ σ_86 := FR_tr frσ_82 flσ_86 (by decide) (by decide)
            try simp (disch := omega) only [w32_of, w64_of, w8_of] at g58
            exact wp_some (x_inr (x_inr (x_inr (x_inr ⟨(by (try dsimp only) <;> first | assumption | omega | ((try simp (disch := omega) only [w32_of, w64_of, w8_of]) <;> first | assumption | omega | (split <;> omega) | (refine And.intro ?_ ?_ <;> split <;> omega)) | omega), hσ_86, frσ_86⟩))))
          · try simp (disch := omega) only [w32_of, w64_of, w8_of, decide_eq_true_eq, decide_eq_false_iff_not, Bool.not_eq_true] at c54
            exact wp_some (x_inl ⟨⟨(by (try dsimp only) <;> first | assumption | omega | ((try simp (disch := omega) only [w32_of, w64_of, w8_of]) <;> first | assumption | omega | (split <;> omega) | (refine And.intro ?_ ?_ <;> split <;> omega)) | omega), hσ_82, frσ_82⟩, (by (try dsimp only) <;> first | assumption | omega | ((try simp (disch := omega) only [w32_of, w64_of, w8_of]) <;> first | assumption | omega | (split <;> omega) | (refine And.intro ?_ ?_ <;> split <;> omega)) | omega)⟩)
        · try simp (disch := omega) only [w32_of, w64_of, w8_of, decide_eq_true_eq, decide_eq_false_iff_not, Bool.not_eq_true] at c47
          exact wp_some (x_inr (x_inl ⟨(by (try dsimp only) <;> first | assumption | omega | ((try simp (disch := omega) only [w32_of, w64_of, w8_of]) <;> first | assumption | omega | (split <;> omega) | (refine And.intro ?_ ?_ <;> split <;> omega)) | omega), hσ_72, frσ_72⟩))
      rintro ⟨j_90, σ_91⟩ y61
      try dsimp only at y61 ⊢
      obtain ⟨g60, hσ_91, frσ_91⟩ := y61
      exact wp_some (x_inl ⟨⟨(by (try dsimp only) <;> first | assumption | omega | ((try simp (disch := omega) only [w32_of, w64_of, w8_of]) <;> first | assumption | omega | (split <;> omega) | (refine And.intro ?_ ?_ <;> split <;> omega)) | omega), hσ_91, frσ_91⟩, (by (try dsimp only) <;> first | assumption | omega | ((try simp (disch := omega) only [w32_of, w64_of, w8_of]) <;> first | assumption | omega | (split <;> omega) | (refine And.intro ?_ ?_ <;> split <;> omega)) | omega)⟩)
    · try simp (disch := omega) only [w32_of, w64_of, w8_of, decide_eq_true_eq, decide_eq_false_iff_not, Bool.not_eq_true] at c42
      exact wp_some (x_inr (x_inl ⟨(by (try dsimp only) <;> first | assumption | omega | ((try simp (disch := omega) only [w32_of, w64_of, w8_of]) <;> first | assumption | omega | (split <;> omega) | (refine And.intro ?_ ?_ <;> split <;> omega)) | omega), hσ_62, frσ_62⟩))
  rintro ⟨i_95, σ_96⟩ y63
  try dsimp only at y63 ⊢
  obtain ⟨g62, hσ_96, frσ_96⟩ := y63
  refine wp_bx (P := fun rr_ => (1 ≤ rr_.1 ∧ rr_.1 ≤ 2049) ∧ II rr_.2 ∧ FR [kR_isInner, kR_joined, kR_meetX, kR_meetY, kR_passRing, kR_passTouch, kR_passes, kR_place, kR_touchMany, kR_touchX, kR_touchY] σ rr_.2) ?_ ?_
  · refine wp_whl (fun ss_ => (1 ≤ ss_.1 ∧ ss_.1 ≤ 2049) ∧ II ss_.2 ∧ FR [kR_isInner, kR_joined, kR_meetX, kR_meetY, kR_passRing, kR_passTouch, kR_passes, kR_place, kR_touchMany, kR_touchX, kR_touchY] σ ss_.2 ∧ (x_1 + 1 ≤ ss_.1)) (fun ss_ => (2050 - ss_.1).toNat) ⟨(by (try dsimp only) <;> first | assumption | omega | ((try simp (disch := omega) only [w32_of, w64_of, w8_of]) <;> first | assumption | omega | (split <;> omega) | (refine And.intro ?_ ?_ <;> split <;> omega)) | omega), hσ_96, frσ_96, (by (try dsimp only) <;> first | assumption | omega | ((try simp (disch := omega) only [w32_of, w64_of, w8_of]) <;> first | assumption | omega | (split <;> omega) | (refine And.intro ?_ ?_ <;> split <;> omega)) | omega)⟩ ?_
    rintro ⟨r_97, σ_98⟩ y66
    try dsimp only at y66 ⊢
    obtain ⟨g64, hσ_98, frσ_98, g65⟩ := y66
    have c68 := w32_rng r_97
    refine wp_if (fun c67 => ?_) (fun c67 => ?_)
    · try simp (disch := omega) only [w32_of, w64_of, w8_of, decide_eq_true_eq, decide_eq_false_iff_not, Bool.not_eq_true] at c67
      have c69 := ii_kR_ringMany hσ_98 0
      have c70 := FR_at frσ_98 (c := kR_ringMany) (by decide) 0
      have c71 := ii_kR_ringMany hσ 0
      refine wp_bd (s_R_liesIn (σ := σ_98) (ring_0 := r_97) (other_0 := x_1) hσ_98 (by (try dsimp only) <;> first | assumption | omega | ((try simp (disch := omega) only [w32_of, w64_of, w8_of]) <;> first | assumption | omega | (split <;> omega) | (refine And.intro ?_ ?_ <;> split <;> omega)) | omega) (by (try dsimp only) <;> first | assumption | omega | ((try simp (disch := omega) only [w32_of, w64_of, w8_of]) <;> first | assumption | omega | (split <;> omega) | (refine And.intro ?_ ?_ <;> split <;> omega)) | omega) (JTb_f frσ_98 (by decide) w0) (by (try dsimp only) <;> first | assumption | omega | ((try simp (disch := omega) only [w32_of, w64_of, w8_of]) <;> first | assumption | omega | (split <;> omega) | (refine And.intro ?_ ?_ <;> split <;> omega)) | omega) (by (try dsimp only) <;> first | assumption | omega | ((try simp (disch := omega) only [w32_of, w64_of, w8_of]) <;> first | assumption | omega | (split <;> omega) | (refine And.intro ?_ ?_ <;> split <;> omega)) | omega)) ?_
      rintro x_108 - -
      refine wp_if (fun c73 => ?_) (fun c73 => ?_)
      · try simp (disch := omega) only [w32_of, w64_of, w8_of, decide_eq_true_eq, decide_eq_false_iff_not, Bool.not_eq_true] at c73
        exact wp_some (x_inl ⟨⟨(by (try dsimp only) <;> first | assumption | omega | ((try simp (disch := omega) only [w32_of, w64_of, w8_of]) <;> first | assumption | omega | (split <;> omega) | (refine And.intro ?_ ?_ <;> split <;> omega)) | omega), hσ_98, frσ_98, (by (try dsimp only) <;> first | assumption | omega | ((try simp (disch := omega) only [w32_of, w64_of, w8_of]) <;> first | assumption | omega | (split <;> omega) | (refine And.intro ?_ ?_ <;> split <;> omega)) | omega)⟩, (by (try dsimp only) <;> first | assumption | omega | ((try simp (disch := omega) only [w32_of, w64_of, w8_of]) <;> first | assumption | omega | (split <;> omega) | (refine And.intro ?_ ?_ <;> split <;> omega)) | omega)⟩)
      · try simp (disch := omega) only [w32_of, w64_of, w8_of, decide_eq_true_eq, decide_eq_false_iff_not, Bool.not_eq_true] at c73
        refine wp_bd (s_R_tellRing (σ := σ_98) (fault_0 := 6) (r_0 := r_97) hσ_98 (by (try dsimp only) <;> first | assumption | omega | ((try simp (disch := omega) only [w32_of, w64_of, w8_of]) <;> first | assumption | omega | (split <;> omega) | (refine And.intro ?_ ?_ <;> split <;> omega)) | omega) (by (try dsimp only) <;> first | assumption | omega | ((try simp (disch := omega) only [w32_of, w64_of, w8_of]) <;> first | assumption | omega | (split <;> omega) | (refine And.intro ?_ ?_ <;> split <;> omega)) | omega) (by (try dsimp only) <;> first | assumption | omega | ((try simp (disch := omega) only [w32_of, w64_of, w8_of]) <;> first | assumption | omega | (split <;> omega) | (refine And.intro ?_ ?_ <;> split <;> omega)) | omega)) ?_
        rintro ⟨x_113, σ_112⟩ - y75
        try dsimp only at y75 ⊢
        obtain ⟨g74, hσ_112, flσ_112⟩ := y75
        have frσ_112 : FR [kR_isInner, kR_joined, kR_meetX, kR_meetY, kR_passRing, kR_passTouch, kR_passes, kR_place, kR_touchMany, kR_touchX, kR_touchY] σ σ_112 := FR_tr frσ_98 flσ_112 (by decide) (by decide)
        try simp (disch := omega) only [w32_of, w64_of, w8_of] at g74
        exact wp_some (x_inr (x_inr ⟨(by (try dsimp only) <;> first | assumption | omega | ((try simp (disch := omega) only [w32_of, w64_of, w8_of]) <;> first | assumption | omega | (split <;> omega) | (refine And.intro ?_ ?_ <;> split <;> omega)) | omega), hσ_112, frσ_112⟩))
    · try simp (disch := omega) only [w32_of, w64_of, w8_of, decide_eq_true_eq, decide_eq_false_iff_not, Bool.not_eq_true] at c67
      exact wp_some (x_inr (x_inl ⟨(by (try dsimp only) <;> first | assumption | omega | ((try simp (disch := omega) only [w32_of, w64_of, w8_of]) <;> first | assumption | omega | (split <;> omega) | (refine And.intro ?_ ?_ <;> split <;> omega)) | omega), hσ_98, frσ_98⟩))
  rintro ⟨r_115, σ_116⟩ y77
  try dsimp only at y77 ⊢
  obtain ⟨g76, hσ_116, frσ_116⟩ := y77
  refine wp_bx (P := fun rr_ => (1 ≤ rr_.1 ∧ rr_.1 ≤ 2049) ∧ II rr_.2 ∧ FR [kR_isInner, kR_joined, kR_meetX, kR_meetY, kR_passRing, kR_passTouch, kR_passes, kR_place, kR_touchMany, kR_touchX, kR_touchY] σ rr_.2) ?_ ?_
  · refine wp_whl (fun ss_ => (1 ≤ ss_.1 ∧ ss_.1 ≤ 2049) ∧ II ss_.2 ∧ FR [kR_isInner, kR_joined, kR_meetX, kR_meetY, kR_passRing, kR_passTouch, kR_passes, kR_place, kR_touchMany, kR_touchX, kR_touchY] σ ss_.2 ∧ (x_1 + 1 ≤ ss_.1)) (fun ss_ => (2050 - ss_.1).toNat) ⟨(by (try dsimp only) <;> first | assumption | omega | ((try simp (disch := omega) only [w32_of, w64_of, w8_of]) <;> first | assumption | omega | (split <;> omega) | (refine And.intro ?_ ?_ <;> split <;> omega)) | omega), hσ_116, frσ_116, (by (try dsimp only) <;> first | assumption | omega | ((try simp (disch := omega) only [w32_of, w64_of, w8_of]) <;> first | assumption | omega | (split <;> omega) | (refine And.intro ?_ ?_ <;> split <;> omega)) | omega)⟩ ?_
    rintro ⟨r_117, σ_118⟩ y80
    try dsimp only at y80 ⊢
    obtain ⟨g78, hσ_118, frσ_118, g79⟩ := y80
    have c82 := w32_rng r_117
    refine wp_if (fun c81 => ?_) (fun c81 => ?_)
    · try simp (disch := omega) only [w32_of, w64_of, w8_of, decide_eq_true_eq, decide_eq_false_iff_not, Bool.not_eq_true] at c81
      refine wp_bx (P := fun rr_ => (2 ≤ rr_.1 ∧ rr_.1 ≤ 2048) ∧ II rr_.2 ∧ FR [kR_isInner, kR_joined, kR_meetX, kR_meetY, kR_passRing, kR_passTouch, kR_passes, kR_place, kR_touchMany, kR_touchX, kR_touchY] σ rr_.2) ?_ ?_
      · refine wp_whl (fun ss_ => (2 ≤ ss_.1 ∧ ss_.1 ≤ 2048) ∧ II ss_.2 ∧ FR [kR_isInner, kR_joined, kR_meetX, kR_meetY, kR_passRing, kR_passTouch, kR_passes, kR_place, kR_touchMany, kR_touchX, kR_touchY] σ ss_.2 ∧ (r_117 + 1 ≤ ss_.1)) (fun ss_ => (2049 - ss_.1).toNat) ⟨(by (try dsimp only) <;> first | assumption | omega | ((try simp (disch := omega) only [w32_of, w64_of, w8_of]) <;> first | assumption | omega | (split <;> omega) | (refine And.intro ?_ ?_ <;> split <;> omega)) | omega), hσ_118, frσ_118, (by (try dsimp only) <;> first | assumption | omega | ((try simp (disch := omega) only [w32_of, w64_of, w8_of]) <;> first | assumption | omega | (split <;> omega) | (refine And.intro ?_ ?_ <;> split <;> omega)) | omega)⟩ ?_
        rintro ⟨q_127, σ_128⟩ y85
        try dsimp only at y85 ⊢
        obtain ⟨g83, hσ_128, frσ_128, g84⟩ := y85
        have c87 := w32_rng q_127
        refine wp_if (fun c86 => ?_) (fun c86 => ?_)
        · try simp (disch := omega) only [w32_of, w64_of, w8_of, decide_eq_true_eq, decide_eq_false_iff_not, Bool.not_eq_true] at c86
          have c88 := ii_kR_ringMany hσ_128 0
          have c89 := FR_at frσ_128 (c := kR_ringMany) (by decide) 0
          have c90 := ii_kR_ringMany hσ 0
          refine wp_bd (s_R_liesIn (σ := σ_128) (ring_0 := r_117) (other_0 := q_127) hσ_128 (by (try dsimp only) <;> first | assumption | omega | ((try simp (disch := omega) only [w32_of, w64_of, w8_of]) <;> first | assumption | omega | (split <;> omega) | (refine And.intro ?_ ?_ <;> split <;> omega)) | omega) (by (try dsimp only) <;> first | assumption | omega | ((try simp (disch := omega) only [w32_of, w64_of, w8_of]) <;> first | assumption | omega | (split <;> omega) | (refine And.intro ?_ ?_ <;> split <;> omega)) | omega) (JTb_f frσ_128 (by decide) w0) (by (try dsimp only) <;> first | assumption | omega | ((try simp (disch := omega) only [w32_of, w64_of, w8_of]) <;> first | assumption | omega | (split <;> omega) | (refine And.intro ?_ ?_ <;> split <;> omega)) | omega) (by (try dsimp only) <;> first | assumption | omega | ((try simp (disch := omega) only [w32_of, w64_of, w8_of]) <;> first | assumption | omega | (split <;> omega) | (refine And.intro ?_ ?_ <;> split <;> omega)) | omega)) ?_
          rintro x_156 - -
          refine wp_if (fun c92 => ?_) (fun c92 => ?_)
          · try simp (disch := omega) only [w32_of, w64_of, w8_of, decide_eq_true_eq, decide_eq_false_iff_not, Bool.not_eq_true] at c92
            refine wp_waI hσ_128 b_kR_place (by (try dsimp only) <;> first | assumption | omega | ((try simp (disch := omega) only [w32_of, w64_of, w8_of]) <;> first | assumption | omega | (split <;> omega) | (refine And.intro ?_ ?_ <;> split <;> omega)) | omega) (by (try dsimp only) <;> first | assumption | omega | ((try simp (disch := omega) only [w32_of, w64_of, w8_of]) <;> first | assumption | omega | (split <;> omega) | (refine And.intro ?_ ?_ <;> split <;> omega)) | omega) (by (try dsimp only) <;> first | assumption | omega | ((try simp (disch := omega) only [w32_of, w64_of, w8_of]) <;> first | assumption | omega | (split <;> omega) | (refine And.intro ?_ ?_ <;> split <;> omega)) | omega) (fun σ_158 hσ_158 eσ_158 => ?_)
            try simp (disch := omega) only [w32_of, w64_of, w8_of] at eσ_158
            have flσ_158 := FR_sg eσ_158
            have frσ_158 : FR [kR_isInner, kR_joined, kR_meetX, kR_meetY, kR_passRing, kR_passTouch, kR_passes, kR_place, kR_touchMany, kR_touchX, kR_touchY] σ σ_158 := FR_tr frσ_128 flσ_158 (by decide) (by decide)
            refine wp_rdI (by (try dsimp only) <;> first | assumption | omega | ((try simp (disch := omega) only [w32_of, w64_of, w8_of]) <;> first | assumption | omega | (split <;> omega) | (refine And.intro ?_ ?_ <;> split <;> omega)) | omega) (by (try dsimp only) <;> first | assumption | omega | ((try simp (disch := omega) only [w32_of, w64_of, w8_of]) <;> first | assumption | omega | (split <;> omega) | (refine And.intro ?_ ?_ <;> split <;> omega)) | omega) (fun x_160 e_x_160 => ?_)
            have b_x_160 : 0 ≤ x_160 ∧ x_160 ≤ 2047 := by rw [e_x_160]; exact ii_kR_ringNumber hσ_158 _
            rw [FR_at frσ_158 (c := kR_ringNumber) (by decide)] at e_x_160
            try simp (disch := omega) only [w32_of, w64_of, w8_of] at e_x_160
            refine wp_waI hσ_158 b_kR_place (by (try dsimp only) <;> first | assumption | omega | ((try simp (disch := omega) only [w32_of, w64_of, w8_of]) <;> first | assumption | omega | (split <;> omega) | (refine And.intro ?_ ?_ <;> split <;> omega)) | omega) (by (try dsimp only) <;> first | assumption | omega | ((try simp (disch := omega) only [w32_of, w64_of, w8_of]) <;> first | assumption | omega | (split <;> omega) | (refine And.intro ?_ ?_ <;> split <;> omega)) | omega) (by (try dsimp only) <;> first | assumption | omega | ((try simp (disch := omega) only [w32_of, w64_of, w8_of]) <;> first | assumption | omega | (split <;> omega) | (refine And.intro ?_ ?_ <;> split <;> omega)) | omega) (fun σ_162 hσ_162 eσ_162 => ?_)
            try simp (disch := omega) only [w32_of, w64_of, w8_of] at eσ_162
            have flσ_162 := FR_sg eσ_162
            have frσ_162 : FR [kR_isInner, kR_joined, kR_meetX, kR_meetY, kR_passRing, kR_passTouch, kR_passes, kR_place, kR_touchMany, kR_touchX, kR_touchY] σ σ_162 := FR_tr frσ_158 flσ_162 (by decide) (by decide)
            refine wp_bd (s_R_tellRing (σ := σ_162) (fault_0 := 7) (r_0 := r_117) hσ_162 (by (try dsimp only) <;> first | assumption | omega | ((try simp (disch := omega) only [w32_of, w64_of, w8_of]) <;> first | assumption | omega | (split <;> omega) | (refine And.intro ?_ ?_ <;> split <;> omega)) | omega) (by (try dsimp only) <;> first | assumption | omega | ((try simp (disch := omega) only [w32_of, w64_of, w8_of]) <;> first | assumption | omega | (split <;> omega) | (refine And.intro ?_ ?_ <;> split <;> omega)) | omega) (by (try dsimp only) <;> first | assumption | omega | ((try simp (disch := omega) only [w32_of, w64_of, w8_of]) <;> first | assumption | omega | (split <;> omega) | (refine And.intro ?_ ?_ <;> split <;> omega)) | omega)) ?_
            rintro ⟨x_166, σ_165⟩ - y94
            try dsimp only at y94 ⊢
            obtain ⟨g93, hσ_165, flσ_165⟩ := y94
            have frσ_165 : FR [kR_isInner, kR_joined, kR_meetX, kR_meetY, kR_passRing, kR_passTouch, kR_passes, kR_place, kR_touchMany, kR_touchX, kR_touchY] σ σ_165 := FR_tr frσ_162 flσ_165 (by decide) (by decide)
            try simp (disch := omega) only [w32_of, w64_of, w8_of] at g93
            exact wp_some (x_inr (x_inr (x_inr (x_inr ⟨(by (try dsimp only) <;> first | assumption | omega | ((try simp (disch := omega) only [w32_of, w64_of, w8_of]) <;> first | assumption | omega | (split <;> omega) | (refine And.intro ?_ ?_ <;> split <;> omega)) | omega), hσ_165, frσ_165⟩))))
          · try simp (disch := omega) only [w32_of, w64_of, w8_of, decide_eq_true_eq, decide_eq_false_iff_not, Bool.not_eq_true] at c92
            refine wp_bd (s_R_liesIn (σ := σ_128) (ring_0 := q_127) (other_0 := r_117) hσ_128 (by (try dsimp only) <;> first | assumption | omega | ((try simp (disch := omega) only [w32_of, w64_of, w8_of]) <;> first | assumption | omega | (split <;> omega) | (refine And.intro ?_ ?_ <;> split <;> omega)) | omega) (by (try dsimp only) <;> first | assumption | omega | ((try simp (disch := omega) only [w32_of, w64_of, w8_of]) <;> first | assumption | omega | (split <;> omega) | (refine And.intro ?_ ?_ <;> split <;> omega)) | omega) (JTb_f frσ_128 (by decide) w0) (by (try dsimp only) <;> first | assumption | omega | ((try simp (disch := omega) only [w32_of, w64_of, w8_of]) <;> first | assumption | omega | (split <;> omega) | (refine And.intro ?_ ?_ <;> split <;> omega)) | omega) (by (try dsimp only) <;> first | assumption | omega | ((try simp (disch := omega) only [w32_of, w64_of, w8_of]) <;> first | assumption | omega | (split <;> omega) | (refine And.intro ?_ ?_ <;> split <;> omega)) | omega)) ?_
            rintro x_168 - -
            refine wp_if (fun c96 => ?_) (fun c96 => ?_)
            · try simp (disch := omega) only [w32_of, w64_of, w8_of, decide_eq_true_eq, decide_eq_false_iff_not, Bool.not_eq_true] at c96
              refine wp_waI hσ_128 b_kR_place (by (try dsimp only) <;> first | assumption | omega | ((try simp (disch := omega) only [w32_of, w64_of, w8_of]) <;> first | assumption | omega | (split <;> omega) | (refine And.intro ?_ ?_ <;> split <;> omega)) | omega) (by (try dsimp only) <;> first | assumption | omega | ((try simp (disch := omega) only [w32_of, w64_of, w8_of]) <;> first | assumption | omega | (split <;> omega) | (refine And.intro ?_ ?_ <;> split <;> omega)) | omega) (by (try dsimp only) <;> first | assumption | omega | ((try simp (disch := omega) only [w32_of, w64_of, w8_of]) <;> first | assumption | omega | (split <;> omega) | (refine And.intro ?_ ?_ <;> split <;> omega)) | omega) (fun σ_170 hσ_170 eσ_170 => ?_)
              try simp (disch := omega) only [w32_of, w64_of, w8_of] at eσ_170
              have flσ_170 := FR_sg eσ_170
              have frσ_170 : FR [kR_isInner, kR_joined, kR_meetX, kR_meetY, kR_passRing, kR_passTouch, kR_passes, kR_place, kR_touchMany, kR_touchX, kR_touchY] σ σ_170 := FR_tr frσ_128 flσ_170 (by decide) (by decide)
              refine wp_rdI (by (try dsimp only) <;> first | assumption | omega | ((try simp (disch := omega) only [w32_of, w64_of, w8_of]) <;> first | assumption | omega | (split <;> omega) | (refine And.intro ?_ ?_ <;> split <;> omega)) | omega) (by (try dsimp only) <;> first | assumption | omega | ((try simp (disch := omega) only [w32_of, w64_of, w8_of]) <;> first | assumption | omega | (split <;> omega) | (refine And.intro ?_ ?_ <;> split <;> omega)) | omega) (fun x_172 e_x_172 => ?_)
              have b_x_172 : 0 ≤ x_172 ∧ x_172 ≤ 2047 := by rw [e_x_172]; exact ii_kR_ringNumber hσ_170 _
              rw [FR_at frσ_170 (c := kR_ringNumber) (by decide)] at e_x_172
              try simp (disch := omega) only [w32_of, w64_of, w8_of] at e_x_172
              refine wp_waI hσ_170 b_kR_place (by (try dsimp only) <;> first | assumption | omega | ((try simp (disch := omega) only [w32_of, w64_of, w8_of]) <;> first | assumption | omega | (split <;> omega) | (refine And.intro ?_ ?_ <;> split <;> omega)) | omega) (by (try dsimp only) <;> first | assumption | omega | ((try simp (disch := omega) only [w32_of, w64_of, w8_of]) <;> first | assumption | omega | (split <;> omega) | (refine And.intro ?_ ?_ <;> split <;> omega)) | omega) (by (try dsimp only) <;> first | assumption | omega | ((try simp (disch := omega) only [w32_of, w64_of, w8_of]) <;> first | assumption | omega | (split <;> omega) | (refine And.intro ?_ ?_ <;> split <;> omega)) | omega) (fun σ_174 hσ_174 eσ_174 => ?_)
              try simp (disch := omega) only [w32_of, w64_of, w8_of] at eσ_174
              have flσ_174 := FR_sg eσ_174
              have frσ_174 : FR [kR_isInner, kR_joined, kR_meetX, kR_meetY, kR_passRing, kR_passTouch, kR_passes, kR_place, kR_touchMany, kR_touchX, kR_touchY] σ σ_174 := FR_tr frσ_170 flσ_174 (by decide) (by decide)
              refine wp_bd (s_R_tellRing (σ := σ_174) (fault_0 := 7) (r_0 := r_117) hσ_174 (by (try dsimp only) <;> first | assumption | omega | ((try simp (disch := omega) only [w32_of, w64_of, w8_of]) <;> first | assumption | omega | (split <;> omega) | (refine And.intro ?_ ?_ <;> split <;> omega)) | omega) (by (try dsimp only) <;> first | assumption | omega | ((try simp (disch := omega) only [w32_of, w64_of, w8_of]) <;> first | assumption | omega | (split <;> omega) | (refine And.intro ?_ ?_ <;> split <;> omega)) | omega) (by (try dsimp only) <;> first | assumption | omega | ((try simp (disch := omega) only [w32_of, w64_of, w8_of]) <;> first | assumption | omega | (split <;> omega) | (refine And.intro ?_ ?_ <;> split <;> omega)) | omega)) ?_
              rintro ⟨x_178, σ_177⟩ - y98
              try dsimp only at y98 ⊢
              obtain ⟨g97, hσ_177, flσ_177⟩ := y98
              have frσ_177 : FR [kR_isInner, kR_joined, kR_meetX, kR_meetY, kR_passRing, kR_passTouch, kR_passes, kR_place, kR_touchMany, kR_touchX, kR_touchY] σ σ_177 := FR_tr frσ_174 flσ_177 (by decide) (by decide)
              try simp (disch := omega) only [w32_of, w64_of, w8_of] at g97
              exact wp_some (x_inr (x_inr (x_inr (x_inr ⟨(by (try dsimp only) <;> first | assumption | omega | ((try simp (disch := omega) only [w32_of, w64_of, w8_of]) <;> first | assumption | omega | (split <;> omega) | (refine And.intro ?_ ?_ <;> split <;> omega)) | omega), hσ_177, frσ_177⟩))))
            · try simp (disch := omega) only [w32_of, w64_of, w8_of, decide_eq_true_eq, decide_eq_false_iff_not, Bool.not_eq_true] at c96
              exact wp_some (x_inl ⟨⟨(by (try dsimp only) <;> first | assumption | omega | ((try simp (disch := omega) only [w32_of, w64_of, w8_of]) <;> first | assumption | omega | (split <;> omega) | (refine And.intro ?_ ?_ <;> split <;> omega)) | omega), hσ_128, frσ_128, (by (try dsimp only) <;> first | assumption | omega | ((try simp (disch := omega) only [w32_of, w64_of, w8_of]) <;> first | assumption | omega | (split <;> omega) | (refine And.intro ?_ ?_ <;> split <;> omega)) | omega)⟩, (by (try dsimp only) <;> first | assumption | omega | ((try simp (disch := omega) only [w32_of, w64_of, w8_of]) <;> first | assumption | omega | (split <;> omega) | (refine And.intro ?_ ?_ <;> split <;> omega)) | omega)⟩)
        · try simp (disch := omega) only [w32_of, w64_of, w8_of, decide_eq_true_eq, decide_eq_false_iff_not, Bool.not_eq_true] at c86
          exact wp_some (x_inr (x_inl ⟨(by (try dsimp only) <;> first | assumption | omega | ((try simp (disch := omega) only [w32_of, w64_of, w8_of]) <;> first | assumption | omega | (split <;> omega) | (refine And.intro ?_ ?_ <;> split <;> omega)) | omega), hσ_128, frσ_128⟩))
      rintro ⟨q_181, σ_182⟩ y100
      try dsimp only at y100 ⊢
      obtain ⟨g99, hσ_182, frσ_182⟩ := y100
      exact wp_some (x_inl ⟨⟨(by (try dsimp only) <;> first | assumption | omega | ((try simp (disch := omega) only [w32_of, w64_of, w8_of]) <;> first | assumption | omega | (split <;> omega) | (refine And.intro ?_ ?_ <;> split <;> omega)) | omega), hσ_182, frσ_182, (by (try dsimp only) <;> first | assumption | omega | ((try simp (disch := omega) only [w32_of, w64_of, w8_of]) <;> first | assumption | omega | (split <;> omega) | (refine And.intro ?_ ?_ <;> split <;> omega)) | omega)⟩, (by (try dsimp only) <;> first | assumption | omega | ((try simp (disch := omega) only [w32_of, w64_of, w8_of]) <;> first | assumption | omega | (split <;> omega) | (refine And.intro ?_ ?_ <;> split <;> omega)) | omega)⟩)
    · try simp (disch := omega) only [w32_of, w64_of, w8_of, decide_eq_true_eq, decide_eq_false_iff_not, Bool.not_eq_true] at c81
      exact wp_some (x_inr (x_inl ⟨(by (try dsimp only) <;> first | assumption | omega | ((try simp (disch := omega) only [w32_of, w64_of, w8_of]) <;> first | assumption | omega | (split <;> omega) | (refine And.intro ?_ ?_ <;> split <;> omega)) | omega), hσ_118, frσ_118⟩))
  rintro ⟨r_186, σ_187⟩ y102
  try dsimp only at y102 ⊢
  obtain ⟨g101, hσ_187, frσ_187⟩ := y102
  refine wp_bd (v_isSplit (σ := σ_187) (from_ := x_57) (to_ := x_59) hσ_187 (by (try dsimp only) <;> first | assumption | omega | ((try simp (disch := omega) only [w32_of, w64_of, w8_of]) <;> first | assumption | omega | (split <;> omega) | (refine And.intro ?_ ?_ <;> split <;> omega)) | omega) (by (try dsimp only) <;> first | assumption | omega | ((try simp (disch := omega) only [w32_of, w64_of, w8_of]) <;> first | assumption | omega | (split <;> omega) | (refine And.intro ?_ ?_ <;> split <;> omega)) | omega) (by (try dsimp only) <;> first | assumption | omega | ((try simp (disch := omega) only [w32_of, w64_of, w8_of]) <;> first | assumption | omega | (split <;> omega) | (refine And.intro ?_ ?_ <;> split <;> omega)) | omega) (by (try dsimp only) <;> first | assumption | omega | ((try simp (disch := omega) only [w32_of, w64_of, w8_of]) <;> first | assumption | omega | (split <;> omega) | (refine And.intro ?_ ?_ <;> split <;> omega)) | omega) (fun i a b => by rw [FR_at frσ_187 (by decide), FR_at frσ_187 (by decide)]; exact jO i (by omega) (by omega))) ?_
  rintro ⟨x_190, σ_189⟩ - y103
  try dsimp only at y103 ⊢
  obtain ⟨hσ_189, flσ_189⟩ := y103
  have frσ_189 : FR [kR_isInner, kR_joined, kR_meetX, kR_meetY, kR_passRing, kR_passTouch, kR_passes, kR_place, kR_touchMany, kR_touchX, kR_touchY] σ σ_189 := FR_tr frσ_187 flσ_189 (by decide) (by decide)
  refine wp_if (fun c104 => ?_) (fun c104 => ?_)
  · try simp (disch := omega) only [w32_of, w64_of, w8_of, decide_eq_true_eq, decide_eq_false_iff_not, Bool.not_eq_true] at c104
    refine wp_waI hσ_189 b_kR_place (by (try dsimp only) <;> first | assumption | omega | ((try simp (disch := omega) only [w32_of, w64_of, w8_of]) <;> first | assumption | omega | (split <;> omega) | (refine And.intro ?_ ?_ <;> split <;> omega)) | omega) (by (try dsimp only) <;> first | assumption | omega | ((try simp (disch := omega) only [w32_of, w64_of, w8_of]) <;> first | assumption | omega | (split <;> omega) | (refine And.intro ?_ ?_ <;> split <;> omega)) | omega) (by (try dsimp only) <;> first | assumption | omega | ((try simp (disch := omega) only [w32_of, w64_of, w8_of]) <;> first | assumption | omega | (split <;> omega) | (refine And.intro ?_ ?_ <;> split <;> omega)) | omega) (fun σ_192 hσ_192 eσ_192 => ?_)
    try simp (disch := omega) only [w32_of, w64_of, w8_of] at eσ_192
    have flσ_192 := FR_sg eσ_192
    have frσ_192 : FR [kR_isInner, kR_joined, kR_meetX, kR_meetY, kR_passRing, kR_passTouch, kR_passes, kR_place, kR_touchMany, kR_touchX, kR_touchY] σ σ_192 := FR_tr frσ_189 flσ_192 (by decide) (by decide)
    exact wp_some ⟨(by (try dsimp only) <;> first | assumption | omega | ((try simp (disch := omega) only [w32_of, w64_of, w8_of]) <;> first | assumption | omega | (split <;> omega) | (refine And.intro ?_ ?_ <;> split <;> omega)) | omega), hσ_192, frσ_192⟩
  · try simp (disch := omega) only [w32_of, w64_of, w8_of, decide_eq_true_eq, decide_eq_false_iff_not, Bool.not_eq_true] at c104
    exact wp_some ⟨(by (try dsimp only) <;> first | assumption | omega | ((try simp (disch := omega) only [w32_of, w64_of, w8_of]) <;> first | assumption | omega | (split <;> omega) | (refine And.intro ?_ ?_ <;> split <;> omega)) | omega), hσ_189, frσ_189⟩
theorem s_R_isInside {σ : SG} {part_0 : Int} {other_0 : Int} (hσ : II σ) (qpart_0 : 0 ≤ part_0 ∧ part_0 ≤ 1024) (qother_0 : 0 ≤ other_0 ∧ other_0 ≤ 1024) (w0 : JTb σ) (w1 : part_0 < σ kR_partMany 0) (w2 : other_0 < σ kR_partMany 0) : wp_ (fR_isInside σ part_0 other_0) (fun zz_ => True) := by
  unfold fR_isInside
  have c1 := ii_kR_partMany hσ 0
  have w0c := w0
  obtain ⟨jG, jR, jS, jF, jO⟩ := w0c
  have jR0 := ii_kR_ringMany hσ 0
  have jS0 := ii_kR_segments hσ 0
  have jp1 := jG.2.1 part_0 (by omega) (by omega) (by omega)
  have jp2 := jG.2.1 (part_0 + 1) (by omega) (by omega) (by omega)
  have jq1 := jG.2.1 other_0 (by omega) (by omega) (by omega)
  have jq2 := jG.2.1 (other_0 + 1) (by omega) (by omega) (by omega)
  have jm1 := jG.2.2 part_0 (by omega) (by omega)
  have jm2 := jG.2.2 other_0 (by omega) (by omega)
  have c2 := w32_rng part_0
  refine wp_rdI (by (try dsimp only) <;> first | assumption | omega | ((try simp (disch := omega) only [w32_of, w64_of, w8_of]) <;> first | assumption | omega | (split <;> omega) | (refine And.intro ?_ ?_ <;> split <;> omega)) | omega) (by (try dsimp only) <;> first | assumption | omega | ((try simp (disch := omega) only [w32_of, w64_of, w8_of]) <;> first | assumption | omega | (split <;> omega) | (refine And.intro ?_ ?_ <;> split <;> omega)) | omega) (fun x_1 e_x_1 => ?_)
  have b_x_1 : 0 ≤ x_1 ∧ x_1 ≤ 2048 := by rw [e_x_1]; exact ii_kR_partFrom hσ _
  try simp (disch := omega) only [w32_of, w64_of, w8_of] at e_x_1
  have c3 := w32_rng other_0
  refine wp_rdI (by (try dsimp only) <;> first | assumption | omega | ((try simp (disch := omega) only [w32_of, w64_of, w8_of]) <;> first | assumption | omega | (split <;> omega) | (refine And.intro ?_ ?_ <;> split <;> omega)) | omega) (by (try dsimp only) <;> first | assumption | omega | ((try simp (disch := omega) only [w32_of, w64_of, w8_of]) <;> first | assumption | omega | (split <;> omega) | (refine And.intro ?_ ?_ <;> split <;> omega)) | omega) (fun x_3 e_x_3 => ?_)
  have b_x_3 : 0 ≤ x_3 ∧ x_3 ≤ 2048 := by rw [e_x_3]; exact ii_kR_partFrom hσ _
  try simp (disch := omega) only [w32_of, w64_of, w8_of] at e_x_3
  have c4 := w32_rng (part_0 + 1)
  refine wp_rdI (by (try dsimp only) <;> first | assumption | omega | ((try simp (disch := omega) only [w32_of, w64_of, w8_of]) <;> first | assumption | omega | (split <;> omega) | (refine And.intro ?_ ?_ <;> split <;> omega)) | omega) (by (try dsimp only) <;> first | assumption | omega | ((try simp (disch := omega) only [w32_of, w64_of, w8_of]) <;> first | assumption | omega | (split <;> omega) | (refine And.intro ?_ ?_ <;> split <;> omega)) | omega) (fun x_18 e_x_18 => ?_)
  have b_x_18 : 0 ≤ x_18 ∧ x_18 ≤ 2048 := by rw [e_x_18]; exact ii_kR_partFrom hσ _
  try simp (disch := omega) only [w32_of, w64_of, w8_of] at e_x_18
  have c6 := w32_rng x_1
  have c7 := w32_rng x_18
  refine wp_if (fun c5 => ?_) (fun c5 => ?_)
  · try simp (disch := omega) only [w32_of, w64_of, w8_of, decide_eq_true_eq, decide_eq_false_iff_not, Bool.not_eq_true] at c5
    exact wp_some trivial
  · try simp (disch := omega) only [w32_of, w64_of, w8_of, decide_eq_true_eq, decide_eq_false_iff_not, Bool.not_eq_true] at c5
    have c8 := w32_rng (other_0 + 1)
    refine wp_rdI (by (try dsimp only) <;> first | assumption | omega | ((try simp (disch := omega) only [w32_of, w64_of, w8_of]) <;> first | assumption | omega | (split <;> omega) | (refine And.intro ?_ ?_ <;> split <;> omega)) | omega) (by (try dsimp only) <;> first | assumption | omega | ((try simp (disch := omega) only [w32_of, w64_of, w8_of]) <;> first | assumption | omega | (split <;> omega) | (refine And.intro ?_ ?_ <;> split <;> omega)) | omega) (fun x_21 e_x_21 => ?_)
    have b_x_21 : 0 ≤ x_21 ∧ x_21 ≤ 2048 := by rw [e_x_21]; exact ii_kR_partFrom hσ _
    try simp (disch := omega) only [w32_of, w64_of, w8_of] at e_x_21
    have c10 := w32_rng x_3
    have c11 := w32_rng x_21
    refine wp_if (fun c9 => ?_) (fun c9 => ?_)
    · try simp (disch := omega) only [w32_of, w64_of, w8_of, decide_eq_true_eq, decide_eq_false_iff_not, Bool.not_eq_true] at c9
      exact wp_some trivial
    · try simp (disch := omega) only [w32_of, w64_of, w8_of, decide_eq_true_eq, decide_eq_false_iff_not, Bool.not_eq_true] at c9
      have c12 := ii_kR_ringMany hσ 0
      refine wp_bd (s_R_liesIn (σ := σ) (ring_0 := x_1) (other_0 := x_3) hσ (by (try dsimp only) <;> first | assumption | omega | ((try simp (disch := omega) only [w32_of, w64_of, w8_of]) <;> first | assumption | omega | (split <;> omega) | (refine And.intro ?_ ?_ <;> split <;> omega)) | omega) (by (try dsimp only) <;> first | assumption | omega | ((try simp (disch := omega) only [w32_of, w64_of, w8_of]) <;> first | assumption | omega | (split <;> omega) | (refine And.intro ?_ ?_ <;> split <;> omega)) | omega) w0 (by (try dsimp only) <;> first | assumption | omega | ((try simp (disch := omega) only [w32_of, w64_of, w8_of]) <;> first | assumption | omega | (split <;> omega) | (refine And.intro ?_ ?_ <;> split <;> omega)) | omega) (by (try dsimp only) <;> first | assumption | omega | ((try simp (disch := omega) only [w32_of, w64_of, w8_of]) <;> first | assumption | omega | (split <;> omega) | (refine And.intro ?_ ?_ <;> split <;> omega)) | omega)) ?_
      rintro x_25 - -
      refine wp_if (fun c14 => ?_) (fun c14 => ?_)
      · try simp (disch := omega) only [w32_of, w64_of, w8_of, decide_eq_true_eq, decide_eq_false_iff_not, Bool.not_eq_true] at c14
        refine wp_bx (P := fun rr_ => (1 ≤ rr_ ∧ rr_ ≤ 2049)) ?_ ?_
        · refine wp_whl (fun ss_ => (1 ≤ ss_ ∧ ss_ ≤ 2049) ∧ (x_3 + 1 ≤ ss_)) (fun ss_ => (2050 - ss_).toNat) ⟨(by (try dsimp only) <;> first | assumption | omega | ((try simp (disch := omega) only [w32_of, w64_of, w8_of]) <;> first | assumption | omega | (split <;> omega) | (refine And.intro ?_ ?_ <;> split <;> omega)) | omega), (by (try dsimp only) <;> first | assumption | omega | ((try simp (disch := omega) only [w32_of, w64_of, w8_of]) <;> first | assumption | omega | (split <;> omega) | (refine And.intro ?_ ?_ <;> split <;> omega)) | omega)⟩ ?_
          rintro r_27 ⟨g15, g16⟩
          refine wp_rdI (by (try dsimp only) <;> first | assumption | omega | ((try simp (disch := omega) only [w32_of, w64_of, w8_of]) <;> first | assumption | omega | (split <;> omega) | (refine And.intro ?_ ?_ <;> split <;> omega)) | omega) (by (try dsimp only) <;> first | assumption | omega | ((try simp (disch := omega) only [w32_of, w64_of, w8_of]) <;> first | assumption | omega | (split <;> omega) | (refine And.intro ?_ ?_ <;> split <;> omega)) | omega) (fun x_35 e_x_35 => ?_)
          have b_x_35 : 0 ≤ x_35 ∧ x_35 ≤ 2048 := by rw [e_x_35]; exact ii_kR_partFrom hσ _
          try simp (disch := omega) only [w32_of, w64_of, w8_of] at e_x_35
          have c18 := w32_rng r_27
          have c19 := w32_rng x_35
          refine wp_if (fun c17 => ?_) (fun c17 => ?_)
          · try simp (disch := omega) only [w32_of, w64_of, w8_of, decide_eq_true_eq, decide_eq_false_iff_not, Bool.not_eq_true] at c17
            refine wp_bd (s_R_liesIn (σ := σ) (ring_0 := x_1) (other_0 := r_27) hσ (by (try dsimp only) <;> first | assumption | omega | ((try simp (disch := omega) only [w32_of, w64_of, w8_of]) <;> first | assumption | omega | (split <;> omega) | (refine And.intro ?_ ?_ <;> split <;> omega)) | omega) (by (try dsimp only) <;> first | assumption | omega | ((try simp (disch := omega) only [w32_of, w64_of, w8_of]) <;> first | assumption | omega | (split <;> omega) | (refine And.intro ?_ ?_ <;> split <;> omega)) | omega) w0 (by (try dsimp only) <;> first | assumption | omega | ((try simp (disch := omega) only [w32_of, w64_of, w8_of]) <;> first | assumption | omega | (split <;> omega) | (refine And.intro ?_ ?_ <;> split <;> omega)) | omega) (by (try dsimp only) <;> first | assumption | omega | ((try simp (disch := omega) only [w32_of, w64_of, w8_of]) <;> first | assumption | omega | (split <;> omega) | (refine And.intro ?_ ?_ <;> split <;> omega)) | omega)) ?_
            rintro x_39 - -
            refine wp_if (fun c21 => ?_) (fun c21 => ?_)
            · try simp (disch := omega) only [w32_of, w64_of, w8_of, decide_eq_true_eq, decide_eq_false_iff_not, Bool.not_eq_true] at c21
              exact wp_some (x_inr (x_inr trivial))
            · try simp (disch := omega) only [w32_of, w64_of, w8_of, decide_eq_true_eq, decide_eq_false_iff_not, Bool.not_eq_true] at c21
              exact wp_some (x_inl ⟨⟨(by (try dsimp only) <;> first | assumption | omega | ((try simp (disch := omega) only [w32_of, w64_of, w8_of]) <;> first | assumption | omega | (split <;> omega) | (refine And.intro ?_ ?_ <;> split <;> omega)) | omega), (by (try dsimp only) <;> first | assumption | omega | ((try simp (disch := omega) only [w32_of, w64_of, w8_of]) <;> first | assumption | omega | (split <;> omega) | (refine And.intro ?_ ?_ <;> split <;> omega)) | omega)⟩, (by (try dsimp only) <;> first | assumption | omega | ((try simp (disch := omega) only [w32_of, w64_of, w8_of]) <;> first | assumption | omega | (split <;> omega) | (refine And.intro ?_ ?_ <;> split <;> omega)) | omega)⟩)
          · try simp (disch := omega) only [w32_of, w64_of, w8_of, decide_eq_true_eq, decide_eq_false_iff_not, Bool.not_eq_true] at c17
            exact wp_some (x_inr (x_inl (by (try dsimp only) <;> first | assumption | omega | ((try simp (disch := omega) only [w32_of, w64_of, w8_of]) <;> first | assumption | omega | (split <;> omega) | (refine And.intro ?_ ?_ <;> split <;> omega)) | omega)))
        rintro r_43 g22
        exact wp_some trivial
      · try simp (disch := omega) only [w32_of, w64_of, w8_of, decide_eq_true_eq, decide_eq_false_iff_not, Bool.not_eq_true] at c14
        exact wp_some trivial
theorem s_R_judgeParts {σ : SG} (hσ : II σ) (w0 : JTb σ) : wp_ (fR_judgeParts σ) (fun zz_ => (0 ≤ zz_.1 ∧ zz_.1 ≤ 15) ∧ II zz_.2 ∧ FR [kR_isInner, kR_joined, kR_meetX, kR_meetY, kR_passRing, kR_passTouch, kR_passes, kR_place, kR_touchMany, kR_touchX, kR_touchY] σ zz_.2) := by
  unfold fR_judgeParts
  have w0c := w0
  obtain ⟨jG, jR, jS, jF, jO⟩ := w0c
  have jR0 := ii_kR_ringMany hσ 0
  have jS0 := ii_kR_segments hσ 0
  refine wp_bx (P := fun rr_ => (0 ≤ rr_.1 ∧ rr_.1 ≤ 1025) ∧ II rr_.2 ∧ FR [kR_isInner, kR_joined, kR_meetX, kR_meetY, kR_passRing, kR_passTouch, kR_passes, kR_place, kR_touchMany, kR_touchX, kR_touchY] σ rr_.2) ?_ ?_
  · refine wp_whl (fun ss_ => (0 ≤ ss_.1 ∧ ss_.1 ≤ 1025) ∧ II ss_.2 ∧ FR [kR_isInner, kR_joined, kR_meetX, kR_meetY, kR_passRing, kR_passTouch, kR_passes, kR_place, kR_touchMany, kR_touchX, kR_touchY] σ ss_.2) (fun ss_ => (1026 - ss_.1).toNat) ⟨(by (try dsimp only) <;> first | assumption | omega | ((try simp (disch := omega) only [w32_of, w64_of, w8_of]) <;> first | assumption | omega | (split <;> omega) | (refine And.intro ?_ ?_ <;> split <;> omega)) | omega), hσ, (FR_refl _ _)⟩ ?_
    rintro ⟨p_1, σ_2⟩ y2
    try dsimp only at y2 ⊢
    obtain ⟨g1, hσ_2, frσ_2⟩ := y2
    have c4 := w32_rng p_1
    have c5 := ii_kR_partMany hσ_2 0
    have c6 := FR_at frσ_2 (c := kR_partMany) (by decide) 0
    have c7 := ii_kR_partMany hσ 0
    have c8 := w32_rng (σ_2 kR_partMany 0)
    refine wp_if (fun c3 => ?_) (fun c3 => ?_)
    · try simp (disch := omega) only [w32_of, w64_of, w8_of, decide_eq_true_eq, decide_eq_false_iff_not, Bool.not_eq_true] at c3
      refine wp_bd (s_R_judgePart (σ := σ_2) (part_0 := p_1) hσ_2 (by (try dsimp only) <;> first | assumption | omega | ((try simp (disch := omega) only [w32_of, w64_of, w8_of]) <;> first | assumption | omega | (split <;> omega) | (refine And.intro ?_ ?_ <;> split <;> omega)) | omega) (JTb_f frσ_2 (by decide) w0) (by (try dsimp only) <;> first | assumption | omega | ((try simp (disch := omega) only [w32_of, w64_of, w8_of]) <;> first | assumption | omega | (split <;> omega) | (refine And.intro ?_ ?_ <;> split <;> omega)) | omega)) ?_
      rintro ⟨x_13, σ_12⟩ - y10
      try dsimp only at y10 ⊢
      obtain ⟨g9, hσ_12, flσ_12⟩ := y10
      have frσ_12 : FR [kR_isInner, kR_joined, kR_meetX, kR_meetY, kR_passRing, kR_passTouch, kR_passes, kR_place, kR_touchMany, kR_touchX, kR_touchY] σ σ_12 := FR_tr frσ_2 flσ_12 (by decide) (by decide)
      try simp (disch := omega) only [w32_of, w64_of, w8_of] at g9
      have c12 := w32_rng x_13
      refine wp_if (fun c11 => ?_) (fun c11 => ?_)
      · try simp (disch := omega) only [w32_of, w64_of, w8_of, decide_eq_true_eq, decide_eq_false_iff_not, Bool.not_eq_true] at c11
        exact wp_some (x_inr (x_inr ⟨(by (try dsimp only) <;> first | assumption | omega | ((try simp (disch := omega) only [w32_of, w64_of, w8_of]) <;> first | assumption | omega | (split <;> omega) | (refine And.intro ?_ ?_ <;> split <;> omega)) | omega), hσ_12, frσ_12⟩))
      · try simp (disch := omega) only [w32_of, w64_of, w8_of, decide_eq_true_eq, decide_eq_false_iff_not, Bool.not_eq_true] at c11
        exact wp_some (x_inl ⟨⟨(by (try dsimp only) <;> first | assumption | omega | ((try simp (disch := omega) only [w32_of, w64_of, w8_of]) <;> first | assumption | omega | (split <;> omega) | (refine And.intro ?_ ?_ <;> split <;> omega)) | omega), hσ_12, frσ_12⟩, (by (try dsimp only) <;> first | assumption | omega | ((try simp (disch := omega) only [w32_of, w64_of, w8_of]) <;> first | assumption | omega | (split <;> omega) | (refine And.intro ?_ ?_ <;> split <;> omega)) | omega)⟩)
    · try simp (disch := omega) only [w32_of, w64_of, w8_of, decide_eq_true_eq, decide_eq_false_iff_not, Bool.not_eq_true] at c3
      exact wp_some (x_inr (x_inl ⟨(by (try dsimp only) <;> first | assumption | omega | ((try simp (disch := omega) only [w32_of, w64_of, w8_of]) <;> first | assumption | omega | (split <;> omega) | (refine And.intro ?_ ?_ <;> split <;> omega)) | omega), hσ_2, frσ_2⟩))
  rintro ⟨p_17, σ_18⟩ y14
  try dsimp only at y14 ⊢
  obtain ⟨g13, hσ_18, frσ_18⟩ := y14
  refine wp_bx (P := fun rr_ => (0 ≤ rr_.1 ∧ rr_.1 ≤ 4200) ∧ II rr_.2 ∧ FR [kR_isInner, kR_joined, kR_meetX, kR_meetY, kR_passRing, kR_passTouch, kR_passes, kR_place, kR_touchMany, kR_touchX, kR_touchY] σ rr_.2) ?_ ?_
  · refine wp_whl (fun ss_ => (0 ≤ ss_.1 ∧ ss_.1 ≤ 4200) ∧ II ss_.2 ∧ FR [kR_isInner, kR_joined, kR_meetX, kR_meetY, kR_passRing, kR_passTouch, kR_passes, kR_place, kR_touchMany, kR_touchX, kR_touchY] σ ss_.2) (fun ss_ => (4201 - ss_.1).toNat) ⟨(by (try dsimp only) <;> first | assumption | omega | ((try simp (disch := omega) only [w32_of, w64_of, w8_of]) <;> first | assumption | omega | (split <;> omega) | (refine And.intro ?_ ?_ <;> split <;> omega)) | omega), hσ_18, frσ_18⟩ ?_
    rintro ⟨i_19, σ_20⟩ y16
    try dsimp only at y16 ⊢
    obtain ⟨g15, hσ_20, frσ_20⟩ := y16
    have c18 := w32_rng i_19
    have c19 := ii_kR_segments hσ_20 0
    have c20 := FR_at frσ_20 (c := kR_segments) (by decide) 0
    have c21 := ii_kR_segments hσ 0
    have c22 := w32_rng (σ_20 kR_segments 0)
    refine wp_if (fun c17 => ?_) (fun c17 => ?_)
    · try simp (disch := omega) only [w32_of, w64_of, w8_of, decide_eq_true_eq, decide_eq_false_iff_not, Bool.not_eq_true] at c17
      refine wp_bx (P := fun rr_ => (1 ≤ rr_.1 ∧ rr_.1 ≤ 4200) ∧ II rr_.2 ∧ FR [kR_isInner, kR_joined, kR_meetX, kR_meetY, kR_passRing, kR_passTouch, kR_passes, kR_place, kR_touchMany, kR_touchX, kR_touchY] σ rr_.2) ?_ ?_
      · refine wp_whl (fun ss_ => (1 ≤ ss_.1 ∧ ss_.1 ≤ 4200) ∧ II ss_.2 ∧ FR [kR_isInner, kR_joined, kR_meetX, kR_meetY, kR_passRing, kR_passTouch, kR_passes, kR_place, kR_touchMany, kR_touchX, kR_touchY] σ ss_.2) (fun ss_ => (4201 - ss_.1).toNat) ⟨(by (try dsimp only) <;> first | assumption | omega | ((try simp (disch := omega) only [w32_of, w64_of, w8_of]) <;> first | assumption | omega | (split <;> omega) | (refine And.intro ?_ ?_ <;> split <;> omega)) | omega), hσ_20, frσ_20⟩ ?_
        rintro ⟨j_29, σ_30⟩ y24
        try dsimp only at y24 ⊢
        obtain ⟨g23, hσ_30, frσ_30⟩ := y24
        have c26 := w32_rng j_29
        have c27 := ii_kR_segments hσ_30 0
        have c28 := FR_at frσ_30 (c := kR_segments) (by decide) 0
        have c29 := w32_rng (σ_30 kR_segments 0)
        refine wp_if (fun c25 => ?_) (fun c25 => ?_)
        · try simp (disch := omega) only [w32_of, w64_of, w8_of, decide_eq_true_eq, decide_eq_false_iff_not, Bool.not_eq_true] at c25
          have ji := jO i_19 (by omega) (by omega)
          have jj := jO j_29 (by omega) (by omega)
          refine wp_rdI (by (try dsimp only) <;> first | assumption | omega | ((try simp (disch := omega) only [w32_of, w64_of, w8_of]) <;> first | assumption | omega | (split <;> omega) | (refine And.intro ?_ ?_ <;> split <;> omega)) | omega) (by (try dsimp only) <;> first | assumption | omega | ((try simp (disch := omega) only [w32_of, w64_of, w8_of]) <;> first | assumption | omega | (split <;> omega) | (refine And.intro ?_ ?_ <;> split <;> omega)) | omega) (fun x_39 e_x_39 => ?_)
          have b_x_39 : 0 ≤ x_39 ∧ x_39 ≤ 2048 := by rw [e_x_39]; exact ii_kR_ringOf hσ_30 _
          rw [FR_at frσ_30 (c := kR_ringOf) (by decide)] at e_x_39
          try simp (disch := omega) only [w32_of, w64_of, w8_of] at e_x_39
          have c30 := w32_rng x_39
          refine wp_rdI (by (try dsimp only) <;> first | assumption | omega | ((try simp (disch := omega) only [w32_of, w64_of, w8_of]) <;> first | assumption | omega | (split <;> omega) | (refine And.intro ?_ ?_ <;> split <;> omega)) | omega) (by (try dsimp only) <;> first | assumption | omega | ((try simp (disch := omega) only [w32_of, w64_of, w8_of]) <;> first | assumption | omega | (split <;> omega) | (refine And.intro ?_ ?_ <;> split <;> omega)) | omega) (fun x_41 e_x_41 => ?_)
          have b_x_41 : 0 ≤ x_41 ∧ x_41 ≤ 1025 := by rw [e_x_41]; exact ii_kR_ringPart hσ_30 _
          rw [FR_at frσ_30 (c := kR_ringPart) (by decide)] at e_x_41
          try simp (disch := omega) only [w32_of, w64_of, w8_of] at e_x_41
          refine wp_rdI (by (try dsimp only) <;> first | assumption | omega | ((try simp (disch := omega) only [w32_of, w64_of, w8_of]) <;> first | assumption | omega | (split <;> omega) | (refine And.intro ?_ ?_ <;> split <;> omega)) | omega) (by (try dsimp only) <;> first | assumption | omega | ((try simp (disch := omega) only [w32_of, w64_of, w8_of]) <;> first | assumption | omega | (split <;> omega) | (refine And.intro ?_ ?_ <;> split <;> omega)) | omega) (fun x_43 e_x_43 => ?_)
          have b_x_43 : 0 ≤ x_43 ∧ x_43 ≤ 2048 := by rw [e_x_43]; exact ii_kR_ringOf hσ_30 _
          rw [FR_at frσ_30 (c := kR_ringOf) (by decide)] at e_x_43
          try simp (disch := omega) only [w32_of, w64_of, w8_of] at e_x_43
          have c31 := w32_rng x_43
          refine wp_rdI (by (try dsimp only) <;> first | assumption | omega | ((try simp (disch := omega) only [w32_of, w64_of, w8_of]) <;> first | assumption | omega | (split <;> omega) | (refine And.intro ?_ ?_ <;> split <;> omega)) | omega) (by (try dsimp only) <;> first | assumption | omega | ((try simp (disch := omega) only [w32_of, w64_of, w8_of]) <;> first | assumption | omega | (split <;> omega) | (refine And.intro ?_ ?_ <;> split <;> omega)) | omega) (fun x_45 e_x_45 => ?_)
          have b_x_45 : 0 ≤ x_45 ∧ x_45 ≤ 1025 := by rw [e_x_45]; exact ii_kR_ringPart hσ_30 _
          rw [FR_at frσ_30 (c := kR_ringPart) (by decide)] at e_x_45
          try simp (disch := omega) only [w32_of, w64_of, w8_of] at e_x_45
          have c33 := w32_rng x_41
          have c34 := w32_rng x_45
          refine wp_if (fun c32 => ?_) (fun c32 => ?_)
          · try simp (disch := omega) only [w32_of, w64_of, w8_of, decide_eq_true_eq, decide_eq_false_iff_not, Bool.not_eq_true] at c32
            exact wp_some (x_inl ⟨⟨(by (try dsimp only) <;> first | assumption | omega | ((try simp (disch := omega) only [w32_of, w64_of, w8_of]) <;> first | assumption | omega | (split <;> omega) | (refine And.intro ?_ ?_ <;> split <;> omega)) | omega), hσ_30, frσ_30⟩, (by (try dsimp only) <;> first | assumption | omega | ((try simp (disch := omega) only [w32_of, w64_of, w8_of]) <;> first | assumption | omega | (split <;> omega) | (refine And.intro ?_ ?_ <;> split <;> omega)) | omega)⟩)
          · try simp (disch := omega) only [w32_of, w64_of, w8_of, decide_eq_true_eq, decide_eq_false_iff_not, Bool.not_eq_true] at c32
            refine wp_bd (s_R_wrongPair (σ := σ_30) (i_0 := i_19) (j_0 := j_29) hσ_30 (by (try dsimp only) <;> first | assumption | omega | ((try simp (disch := omega) only [w32_of, w64_of, w8_of]) <;> first | assumption | omega | (split <;> omega) | (refine And.intro ?_ ?_ <;> split <;> omega)) | omega) (by (try dsimp only) <;> first | assumption | omega | ((try simp (disch := omega) only [w32_of, w64_of, w8_of]) <;> first | assumption | omega | (split <;> omega) | (refine And.intro ?_ ?_ <;> split <;> omega)) | omega) (JTb_f frσ_30 (by decide) w0) (by (try dsimp only) <;> first | assumption | omega | ((try simp (disch := omega) only [w32_of, w64_of, w8_of]) <;> first | assumption | omega | (split <;> omega) | (refine And.intro ?_ ?_ <;> split <;> omega)) | omega) (by (try dsimp only) <;> first | assumption | omega | ((try simp (disch := omega) only [w32_of, w64_of, w8_of]) <;> first | assumption | omega | (split <;> omega) | (refine And.intro ?_ ?_ <;> split <;> omega)) | omega)) ?_
            rintro ⟨x_51, σ_50⟩ - y36
            try dsimp only at y36 ⊢
            obtain ⟨g35, hσ_50, flσ_50⟩ := y36
            have frσ_50 : FR [kR_isInner, kR_joined, kR_meetX, kR_meetY, kR_passRing, kR_passTouch, kR_passes, kR_place, kR_touchMany, kR_touchX, kR_touchY] σ σ_50 := FR_tr frσ_30 flσ_50 (by decide) (by decide)
            try simp (disch := omega) only [w32_of, w64_of, w8_of] at g35
            have c38 := w32_rng x_51
            refine wp_if (fun c37 => ?_) (fun c37 => ?_)
            · try simp (disch := omega) only [w32_of, w64_of, w8_of, decide_eq_true_eq, decide_eq_false_iff_not, Bool.not_eq_true] at c37
              have c39 := ii_kR_segments hσ_50 0
              have c40 := FR_at flσ_50 (c := kR_segments) (by decide) 0
              refine wp_bd (s_R_tellPair (σ := σ_50) (fault_0 := (x_51 + 6)) (i_0 := i_19) (j_0 := j_29) hσ_50 (by (try dsimp only) <;> first | assumption | omega | ((try simp (disch := omega) only [w32_of, w64_of, w8_of]) <;> first | assumption | omega | (split <;> omega) | (refine And.intro ?_ ?_ <;> split <;> omega)) | omega) (by (try dsimp only) <;> first | assumption | omega | ((try simp (disch := omega) only [w32_of, w64_of, w8_of]) <;> first | assumption | omega | (split <;> omega) | (refine And.intro ?_ ?_ <;> split <;> omega)) | omega) (by (try dsimp only) <;> first | assumption | omega | ((try simp (disch := omega) only [w32_of, w64_of, w8_of]) <;> first | assumption | omega | (split <;> omega) | (refine And.intro ?_ ?_ <;> split <;> omega)) | omega) (JTb_f frσ_50 (by decide) w0) (by (try dsimp only) <;> first | assumption | omega | ((try simp (disch := omega) only [w32_of, w64_of, w8_of]) <;> first | assumption | omega | (split <;> omega) | (refine And.intro ?_ ?_ <;> split <;> omega)) | omega) (by (try dsimp only) <;> first | assumption | omega | ((try simp (disch := omega) only [w32_of, w64_of, w8_of]) <;> first | assumption | omega | (split <;> omega) | (refine And.intro ?_ ?_ <;> split <;> omega)) | omega)) ?_
              rintro ⟨x_55, σ_54⟩ - y42
              try dsimp only at y42 ⊢
              obtain ⟨g41, hσ_54, flσ_54⟩ := y42
              have frσ_54 : FR [kR_isInner, kR_joined, kR_meetX, kR_meetY, kR_passRing, kR_passTouch, kR_passes, kR_place, kR_touchMany, kR_touchX, kR_touchY] σ σ_54 := FR_tr frσ_50 flσ_54 (by decide) (by decide)
              try simp (disch := omega) only [w32_of, w64_of, w8_of] at g41
              exact wp_some (x_inr (x_inr (x_inr (x_inr ⟨(by (try dsimp only) <;> first | assumption | omega | ((try simp (disch := omega) only [w32_of, w64_of, w8_of]) <;> first | assumption | omega | (split <;> omega) | (refine And.intro ?_ ?_ <;> split <;> omega)) | omega), hσ_54, frσ_54⟩))))
            · try simp (disch := omega) only [w32_of, w64_of, w8_of, decide_eq_true_eq, decide_eq_false_iff_not, Bool.not_eq_true] at c37
              exact wp_some (x_inl ⟨⟨(by (try dsimp only) <;> first | assumption | omega | ((try simp (disch := omega) only [w32_of, w64_of, w8_of]) <;> first | assumption | omega | (split <;> omega) | (refine And.intro ?_ ?_ <;> split <;> omega)) | omega), hσ_50, frσ_50⟩, (by (try dsimp only) <;> first | assumption | omega | ((try simp (disch := omega) only [w32_of, w64_of, w8_of]) <;> first | assumption | omega | (split <;> omega) | (refine And.intro ?_ ?_ <;> split <;> omega)) | omega)⟩)
        · try simp (disch := omega) only [w32_of, w64_of, w8_of, decide_eq_true_eq, decide_eq_false_iff_not, Bool.not_eq_true] at c25
          exact wp_some (x_inr (x_inl ⟨(by (try dsimp only) <;> first | assumption | omega | ((try simp (disch := omega) only [w32_of, w64_of, w8_of]) <;> first | assumption | omega | (split <;> omega) | (refine And.intro ?_ ?_ <;> split <;> omega)) | omega), hσ_30, frσ_30⟩))
      rintro ⟨j_58, σ_59⟩ y44
      try dsimp only at y44 ⊢
      obtain ⟨g43, hσ_59, frσ_59⟩ := y44
      exact wp_some (x_inl ⟨⟨(by (try dsimp only) <;> first | assumption | omega | ((try simp (disch := omega) only [w32_of, w64_of, w8_of]) <;> first | assumption | omega | (split <;> omega) | (refine And.intro ?_ ?_ <;> split <;> omega)) | omega), hσ_59, frσ_59⟩, (by (try dsimp only) <;> first | assumption | omega | ((try simp (disch := omega) only [w32_of, w64_of, w8_of]) <;> first | assumption | omega | (split <;> omega) | (refine And.intro ?_ ?_ <;> split <;> omega)) | omega)⟩)
    · try simp (disch := omega) only [w32_of, w64_of, w8_of, decide_eq_true_eq, decide_eq_false_iff_not, Bool.not_eq_true] at c17
      exact wp_some (x_inr (x_inl ⟨(by (try dsimp only) <;> first | assumption | omega | ((try simp (disch := omega) only [w32_of, w64_of, w8_of]) <;> first | assumption | omega | (split <;> omega) | (refine And.intro ?_ ?_ <;> split <;> omega)) | omega), hσ_20, frσ_20⟩))
  rintro ⟨i_63, σ_64⟩ y46
  try dsimp only at y46 ⊢
  obtain ⟨g45, hσ_64, frσ_64⟩ := y46
  refine wp_bx (P := fun rr_ => (0 ≤ rr_.1 ∧ rr_.1 ≤ 1025) ∧ II rr_.2 ∧ FR [kR_isInner, kR_joined, kR_meetX, kR_meetY, kR_passRing, kR_passTouch, kR_passes, kR_place, kR_touchMany, kR_touchX, kR_touchY] σ rr_.2) ?_ ?_
  · refine wp_whl (fun ss_ => (0 ≤ ss_.1 ∧ ss_.1 ≤ 1025) ∧ II ss_.2 ∧ FR [kR_isInner, kR_joined, kR_meetX, kR_meetY, kR_passRing, kR_passTouch, kR_passes, kR_place, kR_touchMany, kR_touchX, kR_touchY] σ ss_.2) (fun ss_ => (1026 - ss_.1).toNat) ⟨(by (try dsimp only) <;> first | assumption | omega | ((try simp (disch := omega) only [w32_of, w64_of, w8_of]) <;> first | assumption | omega | (split <;> omega) | (refine And.intro ?_ ?_ <;> split <;> omega)) | omega), hσ_64, frσ_64⟩ ?_
    rintro ⟨p_65, σ_66⟩ y48
    try dsimp only at y48 ⊢
    obtain ⟨g47, hσ_66, frσ_66⟩ := y48
    have c50 := w32_rng p_65
    have c51 := ii_kR_partMany hσ_66 0
    have c52 := FR_at frσ_66 (c := kR_partMany) (by decide) 0
    have c53 := ii_kR_partMany hσ 0
    have c54 := w32_rng (σ_66 kR_partMany 0)
    refine wp_if (fun c49 => ?_) (fun c49 => ?_)
    · try simp (disch := omega) only [w32_of, w64_of, w8_of, decide_eq_true_eq, decide_eq_false_iff_not, Bool.not_eq_true] at c49
      refine wp_bx (P := fun rr_ => (1 ≤ rr_.1 ∧ rr_.1 ≤ 1025) ∧ II rr_.2 ∧ FR [kR_isInner, kR_joined, kR_meetX, kR_meetY, kR_passRing, kR_passTouch, kR_passes, kR_place, kR_touchMany, kR_touchX, kR_touchY] σ rr_.2) ?_ ?_
      · refine wp_whl (fun ss_ => (1 ≤ ss_.1 ∧ ss_.1 ≤ 1025) ∧ II ss_.2 ∧ FR [kR_isInner, kR_joined, kR_meetX, kR_meetY, kR_passRing, kR_passTouch, kR_passes, kR_place, kR_touchMany, kR_touchX, kR_touchY] σ ss_.2) (fun ss_ => (1026 - ss_.1).toNat) ⟨(by (try dsimp only) <;> first | assumption | omega | ((try simp (disch := omega) only [w32_of, w64_of, w8_of]) <;> first | assumption | omega | (split <;> omega) | (refine And.intro ?_ ?_ <;> split <;> omega)) | omega), hσ_66, frσ_66⟩ ?_
        rintro ⟨q_75, σ_76⟩ y56
        try dsimp only at y56 ⊢
        obtain ⟨g55, hσ_76, frσ_76⟩ := y56
        have c58 := w32_rng q_75
        have c59 := ii_kR_partMany hσ_76 0
        have c60 := FR_at frσ_76 (c := kR_partMany) (by decide) 0
        have c61 := w32_rng (σ_76 kR_partMany 0)
        refine wp_if (fun c57 => ?_) (fun c57 => ?_)
        · try simp (disch := omega) only [w32_of, w64_of, w8_of, decide_eq_true_eq, decide_eq_false_iff_not, Bool.not_eq_true] at c57
          refine wp_bd (s_R_isInside (σ := σ_76) (part_0 := p_65) (other_0 := q_75) hσ_76 (by (try dsimp only) <;> first | assumption | omega | ((try simp (disch := omega) only [w32_of, w64_of, w8_of]) <;> first | assumption | omega | (split <;> omega) | (refine And.intro ?_ ?_ <;> split <;> omega)) | omega) (by (try dsimp only) <;> first | assumption | omega | ((try simp (disch := omega) only [w32_of, w64_of, w8_of]) <;> first | assumption | omega | (split <;> omega) | (refine And.intro ?_ ?_ <;> split <;> omega)) | omega) (JTb_f frσ_76 (by decide) w0) (by (try dsimp only) <;> first | assumption | omega | ((try simp (disch := omega) only [w32_of, w64_of, w8_of]) <;> first | assumption | omega | (split <;> omega) | (refine And.intro ?_ ?_ <;> split <;> omega)) | omega) (by (try dsimp only) <;> first | assumption | omega | ((try simp (disch := omega) only [w32_of, w64_of, w8_of]) <;> first | assumption | omega | (split <;> omega) | (refine And.intro ?_ ?_ <;> split <;> omega)) | omega)) ?_
          rintro x_99 - -
          refine wp_if (fun c63 => ?_) (fun c63 => ?_)
          · try simp (disch := omega) only [w32_of, w64_of, w8_of, decide_eq_true_eq, decide_eq_false_iff_not, Bool.not_eq_true] at c63
            refine wp_waI hσ_76 b_kR_place (by (try dsimp only) <;> first | assumption | omega | ((try simp (disch := omega) only [w32_of, w64_of, w8_of]) <;> first | assumption | omega | (split <;> omega) | (refine And.intro ?_ ?_ <;> split <;> omega)) | omega) (by (try dsimp only) <;> first | assumption | omega | ((try simp (disch := omega) only [w32_of, w64_of, w8_of]) <;> first | assumption | omega | (split <;> omega) | (refine And.intro ?_ ?_ <;> split <;> omega)) | omega) (by (try dsimp only) <;> first | assumption | omega | ((try simp (disch := omega) only [w32_of, w64_of, w8_of]) <;> first | assumption | omega | (split <;> omega) | (refine And.intro ?_ ?_ <;> split <;> omega)) | omega) (fun σ_101 hσ_101 eσ_101 => ?_)
            try simp (disch := omega) only [w32_of, w64_of, w8_of] at eσ_101
            have flσ_101 := FR_sg eσ_101
            have frσ_101 : FR [kR_isInner, kR_joined, kR_meetX, kR_meetY, kR_passRing, kR_passTouch, kR_passes, kR_place, kR_touchMany, kR_touchX, kR_touchY] σ σ_101 := FR_tr frσ_76 flσ_101 (by decide) (by decide)
            refine wp_waI hσ_101 b_kR_place (by (try dsimp only) <;> first | assumption | omega | ((try simp (disch := omega) only [w32_of, w64_of, w8_of]) <;> first | assumption | omega | (split <;> omega) | (refine And.intro ?_ ?_ <;> split <;> omega)) | omega) (by (try dsimp only) <;> first | assumption | omega | ((try simp (disch := omega) only [w32_of, w64_of, w8_of]) <;> first | assumption | omega | (split <;> omega) | (refine And.intro ?_ ?_ <;> split <;> omega)) | omega) (by (try dsimp only) <;> first | assumption | omega | ((try simp (disch := omega) only [w32_of, w64_of, w8_of]) <;> first | assumption | omega | (split <;> omega) | (refine And.intro ?_ ?_ <;> split <;> omega)) | omega) (fun σ_103 hσ_103 eσ_103 => ?_)
            try simp (disch := omega) only [w32_of, w64_of, w8_of] at eσ_103
            have flσ_103 := FR_sg eσ_103
            have frσ_103 : FR [kR_isInner, kR_joined, kR_meetX, kR_meetY, kR_passRing, kR_passTouch, kR_passes, kR_place, kR_touchMany, kR_touchX, kR_touchY] σ σ_103 := FR_tr frσ_101 flσ_103 (by decide) (by decide)
            exact wp_some (x_inr (x_inr (x_inr (x_inr ⟨(by (try dsimp only) <;> first | assumption | omega | ((try simp (disch := omega) only [w32_of, w64_of, w8_of]) <;> first | assumption | omega | (split <;> omega) | (refine And.intro ?_ ?_ <;> split <;> omega)) | omega), hσ_103, frσ_103⟩))))
          · try simp (disch := omega) only [w32_of, w64_of, w8_of, decide_eq_true_eq, decide_eq_false_iff_not, Bool.not_eq_true] at c63
            refine wp_bd (s_R_isInside (σ := σ_76) (part_0 := q_75) (other_0 := p_65) hσ_76 (by (try dsimp only) <;> first | assumption | omega | ((try simp (disch := omega) only [w32_of, w64_of, w8_of]) <;> first | assumption | omega | (split <;> omega) | (refine And.intro ?_ ?_ <;> split <;> omega)) | omega) (by (try dsimp only) <;> first | assumption | omega | ((try simp (disch := omega) only [w32_of, w64_of, w8_of]) <;> first | assumption | omega | (split <;> omega) | (refine And.intro ?_ ?_ <;> split <;> omega)) | omega) (JTb_f frσ_76 (by decide) w0) (by (try dsimp only) <;> first | assumption | omega | ((try simp (disch := omega) only [w32_of, w64_of, w8_of]) <;> first | assumption | omega | (split <;> omega) | (refine And.intro ?_ ?_ <;> split <;> omega)) | omega) (by (try dsimp only) <;> first | assumption | omega | ((try simp (disch := omega) only [w32_of, w64_of, w8_of]) <;> first | assumption | omega | (split <;> omega) | (refine And.intro ?_ ?_ <;> split <;> omega)) | omega)) ?_
            rintro x_106 - -
            refine wp_if (fun c65 => ?_) (fun c65 => ?_)
            · try simp (disch := omega) only [w32_of, w64_of, w8_of, decide_eq_true_eq, decide_eq_false_iff_not, Bool.not_eq_true] at c65
              refine wp_waI hσ_76 b_kR_place (by (try dsimp only) <;> first | assumption | omega | ((try simp (disch := omega) only [w32_of, w64_of, w8_of]) <;> first | assumption | omega | (split <;> omega) | (refine And.intro ?_ ?_ <;> split <;> omega)) | omega) (by (try dsimp only) <;> first | assumption | omega | ((try simp (disch := omega) only [w32_of, w64_of, w8_of]) <;> first | assumption | omega | (split <;> omega) | (refine And.intro ?_ ?_ <;> split <;> omega)) | omega) (by (try dsimp only) <;> first | assumption | omega | ((try simp (disch := omega) only [w32_of, w64_of, w8_of]) <;> first | assumption | omega | (split <;> omega) | (refine And.intro ?_ ?_ <;> split <;> omega)) | omega) (fun σ_108 hσ_108 eσ_108 => ?_)
              try simp (disch := omega) only [w32_of, w64_of, w8_of] at eσ_108
              have flσ_108 := FR_sg eσ_108
              have frσ_108 : FR [kR_isInner, kR_joined, kR_meetX, kR_meetY, kR_passRing, kR_passTouch, kR_passes, kR_place, kR_touchMany, kR_touchX, kR_touchY] σ σ_108 := FR_tr frσ_76 flσ_108 (by decide) (by decide)
              refine wp_waI hσ_108 b_kR_place (by (try dsimp only) <;> first | assumption | omega | ((try simp (disch := omega) only [w32_of, w64_of, w8_of]) <;> first | assumption | omega | (split <;> omega) | (refine And.intro ?_ ?_ <;> split <;> omega)) | omega) (by (try dsimp only) <;> first | assumption | omega | ((try simp (disch := omega) only [w32_of, w64_of, w8_of]) <;> first | assumption | omega | (split <;> omega) | (refine And.intro ?_ ?_ <;> split <;> omega)) | omega) (by (try dsimp only) <;> first | assumption | omega | ((try simp (disch := omega) only [w32_of, w64_of, w8_of]) <;> first | assumption | omega | (split <;> omega) | (refine And.intro ?_ ?_ <;> split <;> omega)) | omega) (fun σ_110 hσ_110 eσ_110 => ?_)
              try simp (disch := omega) only [w32_of, w64_of, w8_of] at eσ_110
              have flσ_110 := FR_sg eσ_110
              have frσ_110 : FR [kR_isInner, kR_joined, kR_meetX, kR_meetY, kR_passRing, kR_passTouch, kR_passes, kR_place, kR_touchMany, kR_touchX, kR_touchY] σ σ_110 := FR_tr frσ_108 flσ_110 (by decide) (by decide)
              exact wp_some (x_inr (x_inr (x_inr (x_inr ⟨(by (try dsimp only) <;> first | assumption | omega | ((try simp (disch := omega) only [w32_of, w64_of, w8_of]) <;> first | assumption | omega | (split <;> omega) | (refine And.intro ?_ ?_ <;> split <;> omega)) | omega), hσ_110, frσ_110⟩))))
            · try simp (disch := omega) only [w32_of, w64_of, w8_of, decide_eq_true_eq, decide_eq_false_iff_not, Bool.not_eq_true] at c65
              exact wp_some (x_inl ⟨⟨(by (try dsimp only) <;> first | assumption | omega | ((try simp (disch := omega) only [w32_of, w64_of, w8_of]) <;> first | assumption | omega | (split <;> omega) | (refine And.intro ?_ ?_ <;> split <;> omega)) | omega), hσ_76, frσ_76⟩, (by (try dsimp only) <;> first | assumption | omega | ((try simp (disch := omega) only [w32_of, w64_of, w8_of]) <;> first | assumption | omega | (split <;> omega) | (refine And.intro ?_ ?_ <;> split <;> omega)) | omega)⟩)
        · try simp (disch := omega) only [w32_of, w64_of, w8_of, decide_eq_true_eq, decide_eq_false_iff_not, Bool.not_eq_true] at c57
          exact wp_some (x_inr (x_inl ⟨(by (try dsimp only) <;> first | assumption | omega | ((try simp (disch := omega) only [w32_of, w64_of, w8_of]) <;> first | assumption | omega | (split <;> omega) | (refine And.intro ?_ ?_ <;> split <;> omega)) | omega), hσ_76, frσ_76⟩))
      rintro ⟨q_114, σ_115⟩ y67
      try dsimp only at y67 ⊢
      obtain ⟨g66, hσ_115, frσ_115⟩ := y67
      exact wp_some (x_inl ⟨⟨(by (try dsimp only) <;> first | assumption | omega | ((try simp (disch := omega) only [w32_of, w64_of, w8_of]) <;> first | assumption | omega | (split <;> omega) | (refine And.intro ?_ ?_ <;> split <;> omega)) | omega), hσ_115, frσ_115⟩, (by (try dsimp only) <;> first | assumption | omega | ((try simp (disch := omega) only [w32_of, w64_of, w8_of]) <;> first | assumption | omega | (split <;> omega) | (refine And.intro ?_ ?_ <;> split <;> omega)) | omega)⟩)
    · try simp (disch := omega) only [w32_of, w64_of, w8_of, decide_eq_true_eq, decide_eq_false_iff_not, Bool.not_eq_true] at c49
      exact wp_some (x_inr (x_inl ⟨(by (try dsimp only) <;> first | assumption | omega | ((try simp (disch := omega) only [w32_of, w64_of, w8_of]) <;> first | assumption | omega | (split <;> omega) | (refine And.intro ?_ ?_ <;> split <;> omega)) | omega), hσ_66, frσ_66⟩))
  rintro ⟨p_119, σ_120⟩ y69
  try dsimp only at y69 ⊢
  obtain ⟨g68, hσ_120, frσ_120⟩ := y69
  exact wp_some ⟨(by (try dsimp only) <;> first | assumption | omega | ((try simp (disch := omega) only [w32_of, w64_of, w8_of]) <;> first | assumption | omega | (split <;> omega) | (refine And.intro ?_ ?_ <;> split <;> omega)) | omega), hσ_120, frσ_120⟩
theorem s_R_judge {σ : SG} {slot_0 : Int} (hσ : II σ) (qslot_0 : (-2147483648) ≤ slot_0 ∧ slot_0 ≤ 2147483647) (w0 : SHs σ) : wp_ (fR_judge σ slot_0) (fun zz_ => (0 ≤ zz_.1 ∧ zz_.1 ≤ 15) ∧ II zz_.2 ∧ FR [kR_ex, kR_ey, kR_firstSegment, kR_isInner, kR_joined, kR_meetX, kR_meetY, kR_numberOf, kR_partFrom, kR_partMany, kR_passRing, kR_passTouch, kR_passes, kR_place, kR_ringFrom, kR_ringMany, kR_ringNumber, kR_ringOf, kR_ringPart, kR_ringSize, kR_segments, kR_shapeOf, kR_sx, kR_sy, kR_thrown, kR_touchMany, kR_touchX, kR_touchY] σ zz_.2) := by
  unfold fR_judge
  refine wp_wfI hσ b_kR_thrown (by (try dsimp only) <;> first | assumption | omega | ((try simp (disch := omega) only [w32_of, w64_of, w8_of]) <;> first | assumption | omega | (split <;> omega) | (refine And.intro ?_ ?_ <;> split <;> omega)) | omega) (fun σ_1 hσ_1 eσ_1 => ?_)
  try simp (disch := omega) only [w32_of, w64_of, w8_of] at eσ_1
  have flσ_1 := FR_sg eσ_1
  have frσ_1 : FR [kR_ex, kR_ey, kR_firstSegment, kR_isInner, kR_joined, kR_meetX, kR_meetY, kR_numberOf, kR_partFrom, kR_partMany, kR_passRing, kR_passTouch, kR_passes, kR_place, kR_ringFrom, kR_ringMany, kR_ringNumber, kR_ringOf, kR_ringPart, kR_ringSize, kR_segments, kR_shapeOf, kR_sx, kR_sy, kR_thrown, kR_touchMany, kR_touchX, kR_touchY] σ σ_1 := FR_le flσ_1 (by decide)
  have c3 := ii_kR_thrown hσ_1 0
  have c4 := sg_val eσ_1
  refine wp_fails hσ_1 (by (try dsimp only) <;> first | assumption | omega | ((try simp (disch := omega) only [w32_of, w64_of, w8_of]) <;> first | assumption | omega | (split <;> omega) | (refine And.intro ?_ ?_ <;> split <;> omega)) | omega) (by decide) (fun σ_27 hσ_27 flσ_27 e1 e2 => ?_)
  try dsimp only
  have frσ_27 : FR [kR_ex, kR_ey, kR_firstSegment, kR_isInner, kR_joined, kR_meetX, kR_meetY, kR_numberOf, kR_partFrom, kR_partMany, kR_passRing, kR_passTouch, kR_passes, kR_place, kR_ringFrom, kR_ringMany, kR_ringNumber, kR_ringOf, kR_ringPart, kR_ringSize, kR_segments, kR_shapeOf, kR_sx, kR_sy, kR_thrown, kR_touchMany, kR_touchX, kR_touchY] σ σ_27 := FR_tr frσ_1 flσ_27 (by decide) (by decide)
  refine wp_if (fun c5 => ?_) (fun c5 => ?_)
  · have k6 := e1 c5
    try simp (disch := omega) only [w32_of, w64_of, w8_of, decide_eq_true_eq, decide_eq_false_iff_not, Bool.not_eq_true, fR_isSlot] at c5
    exact wp_some ⟨(by (try dsimp only) <;> first | assumption | omega | ((try simp (disch := omega) only [w32_of, w64_of, w8_of]) <;> first | assumption | omega | (split <;> omega) | (refine And.intro ?_ ?_ <;> split <;> omega)) | omega), hσ_27, frσ_27⟩
  · have k7 := e2 c5
    try simp (disch := omega) only [w32_of, w64_of, w8_of, decide_eq_true_eq, decide_eq_false_iff_not, Bool.not_eq_true, fR_isSlot] at c5
    refine wp_bdk ?_
    refine wp_bd (v_has (σ := σ_27) (slot_0 := slot_0) hσ_27 (by (try dsimp only) <;> first | assumption | omega | ((try simp (disch := omega) only [w32_of, w64_of, w8_of]) <;> first | assumption | omega | (split <;> omega) | (refine And.intro ?_ ?_ <;> split <;> omega)) | omega)) ?_
    rintro x_31 - g8
    have c9 := ii_kR_planMany hσ_27 slot_0
    have c10 := FR_at flσ_27 (c := kR_planMany) (by decide) slot_0
    have c11 := ii_kR_planMany hσ_1 slot_0
    have c12 := FR_at flσ_1 (c := kR_planMany) (by decide) slot_0
    have c13 := ii_kR_planMany hσ slot_0
    try simp (disch := omega) only [w32_of, w64_of, w8_of] at g8
    refine wp_if (fun c14 => ?_) (fun c14 => ?_)
    · have k15 := g8.mp c14
      try simp (disch := omega) only [w32_of, w64_of, w8_of] at k15
      try simp (disch := omega) only [w32_of, w64_of, w8_of, decide_eq_true_eq, decide_eq_false_iff_not, Bool.not_eq_true] at c14
      refine wp_somek ?_
      try dsimp only
      have c18 := ii_kR_thrown hσ_27 0
      refine wp_fails hσ_27 (by (try dsimp only) <;> first | assumption | omega | ((try simp (disch := omega) only [w32_of, w64_of, w8_of]) <;> first | assumption | omega | (split <;> omega) | (refine And.intro ?_ ?_ <;> split <;> omega)) | omega) (by decide) (fun σ_37 hσ_37 flσ_37 e16 e17 => ?_)
      try dsimp only
      have frσ_37 : FR [kR_ex, kR_ey, kR_firstSegment, kR_isInner, kR_joined, kR_meetX, kR_meetY, kR_numberOf, kR_partFrom, kR_partMany, kR_passRing, kR_passTouch, kR_passes, kR_place, kR_ringFrom, kR_ringMany, kR_ringNumber, kR_ringOf, kR_ringPart, kR_ringSize, kR_segments, kR_shapeOf, kR_sx, kR_sy, kR_thrown, kR_touchMany, kR_touchX, kR_touchY] σ σ_37 := FR_tr frσ_27 flσ_37 (by decide) (by decide)
      have k19 := e17 (by decide)
      refine wp_ft ?_
      refine wp_bd (s_R_forgetPlace (σ := σ_37) hσ_37) ?_
      rintro σ_41 - ⟨hσ_41, flσ_41⟩
      have frσ_41 : FR [kR_ex, kR_ey, kR_firstSegment, kR_isInner, kR_joined, kR_meetX, kR_meetY, kR_numberOf, kR_partFrom, kR_partMany, kR_passRing, kR_passTouch, kR_passes, kR_place, kR_ringFrom, kR_ringMany, kR_ringNumber, kR_ringOf, kR_ringPart, kR_ringSize, kR_segments, kR_shapeOf, kR_sx, kR_sy, kR_thrown, kR_touchMany, kR_touchX, kR_touchY] σ σ_41 := FR_tr frσ_37 flσ_41 (by decide) (by decide)
      have c20 := w32_rng slot_0
      refine wp_rdI (by (try dsimp only) <;> first | assumption | omega | ((try simp (disch := omega) only [w32_of, w64_of, w8_of]) <;> first | assumption | omega | (split <;> omega) | (refine And.intro ?_ ?_ <;> split <;> omega)) | omega) (by (try dsimp only) <;> first | assumption | omega | ((try simp (disch := omega) only [w32_of, w64_of, w8_of]) <;> first | assumption | omega | (split <;> omega) | (refine And.intro ?_ ?_ <;> split <;> omega)) | omega) (fun x_42 e_x_42 => ?_)
      have b_x_42 : 0 ≤ x_42 ∧ x_42 ≤ 2048 := by rw [e_x_42]; exact ii_kR_planMany hσ_41 _
      rw [FR_at frσ_41 (c := kR_planMany) (by decide)] at e_x_42
      try simp (disch := omega) only [w32_of, w64_of, w8_of] at e_x_42
      refine wp_bx (P := fun rr_ => (0 ≤ rr_.1 ∧ rr_.1 ≤ 2147483647) ∧ II rr_.2.2.2 ∧ FR [kR_ex, kR_ey, kR_firstSegment, kR_isInner, kR_joined, kR_meetX, kR_meetY, kR_numberOf, kR_partFrom, kR_partMany, kR_passRing, kR_passTouch, kR_passes, kR_place, kR_ringFrom, kR_ringMany, kR_ringNumber, kR_ringOf, kR_ringPart, kR_ringSize, kR_segments, kR_shapeOf, kR_sx, kR_sy, kR_thrown, kR_touchMany, kR_touchX, kR_touchY] σ rr_.2.2.2) ?_ ?_
      · have hpm := ii_kR_planMany hσ slot_0
        have hqm := ii_kR_pointMany hσ slot_0
        refine wp_whl (fun ss_ => II ss_.2.2.2 ∧ FR [kR_ex, kR_ey, kR_firstSegment, kR_isInner, kR_joined, kR_meetX, kR_meetY, kR_numberOf, kR_partFrom, kR_partMany, kR_passRing, kR_passTouch, kR_passes, kR_place, kR_ringFrom, kR_ringMany, kR_ringNumber, kR_ringOf, kR_ringPart, kR_ringSize, kR_segments, kR_shapeOf, kR_sx, kR_sy, kR_thrown, kR_touchMany, kR_touchX, kR_touchY] σ ss_.2.2.2 ∧ (FLw σ slot_0 ss_.1 ss_.2.1) ∧ (0 ≤ ss_.2.2.1) ∧ (2 * ss_.2.2.1 ≤ ss_.1 - 2048 * slot_0)) (fun ss_ => (2048 * slot_0 + 2050 - ss_.1).toNat) ⟨hσ_41, frσ_41, (by (try dsimp only) <;> (first | assumption | exact FLw_0 (w0 _ (by omega) (by omega)))), (by (try dsimp only) <;> first | assumption | omega | ((try simp (disch := omega) only [w32_of, w64_of, w8_of]) <;> first | assumption | omega | (split <;> omega) | (refine And.intro ?_ ?_ <;> split <;> omega)) | omega), (by (try dsimp only) <;> first | assumption | omega | ((try simp (disch := omega) only [w32_of, w64_of, w8_of]) <;> first | assumption | omega | (split <;> omega) | (refine And.intro ?_ ?_ <;> split <;> omega)) | omega)⟩ ?_
        rintro ⟨p_44, point_45, shape_46, σ_47⟩ y23
        try dsimp only at y23 ⊢
        obtain ⟨hσ_47, frσ_47, gw, g21, g22⟩ := y23
        have hle := FLw_le gw
        have c25 := w32_rng p_44
        have c26 := w32_rng ((2048 * slot_0) + x_42)
        refine wp_if (fun c24 => ?_) (fun c24 => ?_)
        · try simp (disch := omega) only [w32_of, w64_of, w8_of, decide_eq_true_eq, decide_eq_false_iff_not, Bool.not_eq_true] at c24
          refine wp_rdI (by (try dsimp only) <;> first | assumption | omega | ((try simp (disch := omega) only [w32_of, w64_of, w8_of]) <;> first | assumption | omega | (split <;> omega) | (refine And.intro ?_ ?_ <;> split <;> omega)) | omega) (by (try dsimp only) <;> first | assumption | omega | ((try simp (disch := omega) only [w32_of, w64_of, w8_of]) <;> first | assumption | omega | (split <;> omega) | (refine And.intro ?_ ?_ <;> split <;> omega)) | omega) (fun x_56 e_x_56 => ?_)
          rw [FR_at frσ_47 (c := kR_plan) (by decide)] at e_x_56
          try simp (disch := omega) only [w32_of, w64_of, w8_of] at e_x_56
          have c27 := w32_rng (p_44 + 1)
          refine wp_rdI (by (try dsimp only) <;> first | assumption | omega | ((try simp (disch := omega) only [w32_of, w64_of, w8_of]) <;> first | assumption | omega | (split <;> omega) | (refine And.intro ?_ ?_ <;> split <;> omega)) | omega) (by (try dsimp only) <;> first | assumption | omega | ((try simp (disch := omega) only [w32_of, w64_of, w8_of]) <;> first | assumption | omega | (split <;> omega) | (refine And.intro ?_ ?_ <;> split <;> omega)) | omega) (fun x_58 e_x_58 => ?_)
          rw [FR_at frσ_47 (c := kR_plan) (by decide)] at e_x_58
          try simp (disch := omega) only [w32_of, w64_of, w8_of] at e_x_58
          refine wp_wfI hσ_47 b_kR_ringMany (by (try dsimp only) <;> first | assumption | omega | ((try simp (disch := omega) only [w32_of, w64_of, w8_of]) <;> first | assumption | omega | (split <;> omega) | (refine And.intro ?_ ?_ <;> split <;> omega)) | omega) (fun σ_60 hσ_60 eσ_60 => ?_)
          try simp (disch := omega) only [w32_of, w64_of, w8_of] at eσ_60
          have flσ_60 := FR_sg eσ_60
          have frσ_60 : FR [kR_ex, kR_ey, kR_firstSegment, kR_isInner, kR_joined, kR_meetX, kR_meetY, kR_numberOf, kR_partFrom, kR_partMany, kR_passRing, kR_passTouch, kR_passes, kR_place, kR_ringFrom, kR_ringMany, kR_ringNumber, kR_ringOf, kR_ringPart, kR_ringSize, kR_segments, kR_shapeOf, kR_sx, kR_sy, kR_thrown, kR_touchMany, kR_touchX, kR_touchY] σ σ_60 := FR_tr frσ_47 flσ_60 (by decide) (by decide)
          refine wp_wfI hσ_60 b_kR_partMany (by (try dsimp only) <;> first | assumption | omega | ((try simp (disch := omega) only [w32_of, w64_of, w8_of]) <;> first | assumption | omega | (split <;> omega) | (refine And.intro ?_ ?_ <;> split <;> omega)) | omega) (fun σ_61 hσ_61 eσ_61 => ?_)
          try simp (disch := omega) only [w32_of, w64_of, w8_of] at eσ_61
          have flσ_61 := FR_sg eσ_61
          have frσ_61 : FR [kR_ex, kR_ey, kR_firstSegment, kR_isInner, kR_joined, kR_meetX, kR_meetY, kR_numberOf, kR_partFrom, kR_partMany, kR_passRing, kR_passTouch, kR_passes, kR_place, kR_ringFrom, kR_ringMany, kR_ringNumber, kR_ringOf, kR_ringPart, kR_ringSize, kR_segments, kR_shapeOf, kR_sx, kR_sy, kR_thrown, kR_touchMany, kR_touchX, kR_touchY] σ σ_61 := FR_tr frσ_60 flσ_61 (by decide) (by decide)
          obtain ⟨ho, hn, h2, h3, h4, h5, h6⟩ := FLw_hd gw (by omega)
          have ho1 := ho.1
          have ho2 := ho.2.1
          have ho3 := ho.2.2.1
          have hpl : σ_61 kR_plan = σ kR_plan := funext (FR_at frσ_61 (by decide))
          have m61 : σ_61 kR_ringMany 0 = 0 := by simp (disch := first | decide | omega) only [eσ_61, eσ_60, sg_at, sg_nc, sg_ni]
          have q61 : σ_61 kR_partMany 0 = 0 := by simp (disch := first | decide | omega) only [eσ_61, sg_at, sg_nc, sg_ni]
          have gt61 : GTb σ_61 := ⟨fun r a b => by omega, fun p a b c => by omega, fun p a b => by omega⟩
          have hle2 := FLw_le hn
          refine wp_bd (P := fun rr_ => (0 ≤ rr_.2.2.1 ∧ rr_.2.2.1 ≤ 2) ∧ II rr_.2.2.2 ∧ FR [kR_ex, kR_ey, kR_firstSegment, kR_isInner, kR_joined, kR_meetX, kR_meetY, kR_numberOf, kR_partFrom, kR_partMany, kR_passRing, kR_passTouch, kR_passes, kR_place, kR_ringFrom, kR_ringMany, kR_ringNumber, kR_ringOf, kR_ringPart, kR_ringSize, kR_segments, kR_shapeOf, kR_sx, kR_sy, kR_thrown, kR_touchMany, kR_touchX, kR_touchY] σ rr_.2.2.2 ∧ (FLw σ slot_0 rr_.1 rr_.2.1) ∧ (GTb rr_.2.2.2) ∧ (rr_.2.2.2 kR_ringMany 0 ≤ 2047) ∧ (su_ (rr_.2.2.2 kR_ringSize) 0 (rr_.2.2.2 kR_ringMany 0).toNat ≤ 2048) ∧ (p_44 + 2 ≤ rr_.1 ∧ (x_56 = 6 → p_44 + 2 + 2 * x_58 ≤ rr_.1))) ?_ ?_
          · have c29 := w32_rng x_56
            refine wp_if (fun c28 => ?_) (fun c28 => ?_)
            · try simp (disch := omega) only [w32_of, w64_of, w8_of, decide_eq_true_eq, decide_eq_false_iff_not, Bool.not_eq_true] at c28
              have el3 := el_3 (show σ kR_plan p_44 = 3 by omega)
              have c30 := FR_at flσ_61 (c := kR_plan) (by decide) p_44
              have c31 := FR_at flσ_60 (c := kR_plan) (by decide) p_44
              have c32 := FR_at frσ_47 (c := kR_plan) (by decide) p_44
              have c33 := ii_kR_partMany hσ_61 0
              have c34 := sg_val eσ_61
              have c35 := ii_kR_ringMany hσ_61 0
              have c36 := FR_at flσ_61 (c := kR_ringMany) (by decide) 0
              have c37 := ii_kR_ringMany hσ_60 0
              have c38 := sg_val eσ_60
              have c39 := FR_at flσ_61 (c := kR_plan) (by decide) (p_44 + 1)
              have c40 := FR_at flσ_60 (c := kR_plan) (by decide) (p_44 + 1)
              have c41 := FR_at frσ_47 (c := kR_plan) (by decide) (p_44 + 1)
              refine wp_bd (s_R_gather (σ := σ_61) (slot_0 := slot_0) (from_0 := p_44) (first_0 := point_45) (part_0 := 0) hσ_61 (by (try dsimp only) <;> first | assumption | omega | ((try simp (disch := omega) only [w32_of, w64_of, w8_of]) <;> first | assumption | omega | (split <;> omega) | (refine And.intro ?_ ?_ <;> split <;> omega)) | omega) (by (try dsimp only) <;> first | assumption | omega | ((try simp (disch := omega) only [w32_of, w64_of, w8_of]) <;> first | assumption | omega | (split <;> omega) | (refine And.intro ?_ ?_ <;> split <;> omega)) | omega) (by first | (rw [hpl]; exact ho) | (rw [hp79]; exact ho9)) (by first | (rw [hpl]; omega) | (rw [hp79]; exact hp1)) (by (try dsimp only) <;> first | assumption | omega | ((try simp (disch := omega) only [w32_of, w64_of, w8_of]) <;> first | assumption | omega | (split <;> omega) | (refine And.intro ?_ ?_ <;> split <;> omega)) | omega) (by first | (rw [hpl]; omega) | (rw [hp79]; omega)) (by (try dsimp only) <;> first | assumption | omega | ((try simp (disch := omega) only [w32_of, w64_of, w8_of]) <;> first | assumption | omega | (split <;> omega) | (refine And.intro ?_ ?_ <;> split <;> omega)) | omega) (by first | (rw [hpl]; omega) | (rw [hp79]; omega)) (by (try dsimp only) <;> first | assumption | omega | ((try simp (disch := omega) only [w32_of, w64_of, w8_of]) <;> first | assumption | omega | (split <;> omega) | (refine And.intro ?_ ?_ <;> split <;> omega)) | omega) (by (try dsimp only) <;> first | assumption | omega | ((try simp (disch := omega) only [w32_of, w64_of, w8_of]) <;> first | assumption | omega | (split <;> omega) | (refine And.intro ?_ ?_ <;> split <;> omega)) | omega) (by first | (rw [hpl]; omega) | (rw [hp79]; omega)) (by first | exact gt61 | exact gg) (by first | (rw [m61, hpl]; show (0 : Int) + _ ≤ _; omega) | (rw [gs, hp79]; omega))) ?_
              rintro ⟨x_69, σ_68⟩ - y42
              try dsimp only at y42 ⊢
              obtain ⟨hσ_68, flσ_68, hg1, hg0, hgt, hg2, hg3⟩ := y42
              have frσ_68 : FR [kR_ex, kR_ey, kR_firstSegment, kR_isInner, kR_joined, kR_meetX, kR_meetY, kR_numberOf, kR_partFrom, kR_partMany, kR_passRing, kR_passTouch, kR_passes, kR_place, kR_ringFrom, kR_ringMany, kR_ringNumber, kR_ringOf, kR_ringPart, kR_ringSize, kR_segments, kR_shapeOf, kR_sx, kR_sy, kR_thrown, kR_touchMany, kR_touchX, kR_touchY] σ σ_68 := FR_tr frσ_61 flσ_68 (by decide) (by decide)
              try simp (disch := omega) only [w32_of, w64_of, w8_of] at hg1
              have c43 := ii_kR_ringMany hσ_68 0
              try simp (disch := omega) only [w32_of, w64_of, w8_of] at hg0
              try simp (disch := omega) only [w32_of, w64_of, w8_of] at hgt
              try simp (disch := omega) only [w32_of, w64_of, w8_of] at hg2
              have c44 := ii_kR_partMany hσ_68 0
              try simp (disch := omega) only [w32_of, w64_of, w8_of] at hg3
              rw [hpl] at hg1 hg2 hg0
              exact wp_some ⟨(by (try dsimp only) <;> first | assumption | omega | ((try simp (disch := omega) only [w32_of, w64_of, w8_of]) <;> first | assumption | omega | (split <;> omega) | (refine And.intro ?_ ?_ <;> split <;> omega)) | omega), hσ_68, frσ_68, (by (try dsimp only) <;> (first | (rw [show p_44 + 2 + x_58 = p_44 + eL (σ kR_plan) p_44 by omega, hg1]; exact hn) | exact gw9 | (rw [show p_44 + 2 = p_44 + eL (σ kR_plan) p_44 by omega, show point_45 + x_58 = point_45 + eP (σ kR_plan) p_44 by omega]; exact hn) | (rw [show p_44 + 2 = p_44 + eL (σ kR_plan) p_44 by omega]; have hz := hn; rw [ep_g (by omega), Int.add_zero] at hz; exact hz))), (by (try dsimp only) <;> (first | assumption | exact gt61)), (by (try dsimp only) <;> first | assumption | omega | ((try simp (disch := omega) only [w32_of, w64_of, w8_of]) <;> first | assumption | omega | (split <;> omega) | (refine And.intro ?_ ?_ <;> split <;> omega)) | omega), (by (try dsimp only) <;> (first | (rw [m61]; show (0 : Int) ≤ 2048; decide) | (rw [hg2, m61]; show (0 : Int) + _ ≤ _; omega) | omega)), (by (try dsimp only) <;> (refine ⟨by omega, fun q => by omega⟩))⟩
            · try simp (disch := omega) only [w32_of, w64_of, w8_of, decide_eq_true_eq, decide_eq_false_iff_not, Bool.not_eq_true] at c28
              refine wp_bdk ?_
              refine wp_if (fun c45 => ?_) (fun c45 => ?_)
              · try simp (disch := omega) only [w32_of, w64_of, w8_of, decide_eq_true_eq, decide_eq_false_iff_not, Bool.not_eq_true] at c45
                have el6 := el_n (show ¬ σ kR_plan p_44 = 3 by omega)
                have ep6 := ep_g (show 3 < σ kR_plan p_44 by omega)
                have hnl := hn
                rw [el6, ep6, Int.add_zero] at hnl
                obtain ⟨rr, hrr, hpt⟩ := h6 (by omega)
                have hptl := PT_le hpt
                refine wp_bd (P := fun rr_ => (0 ≤ rr_.2.2.1 ∧ rr_.2.2.1 ≤ 2147483647) ∧ II rr_.2.2.2 ∧ FR [kR_ex, kR_ey, kR_firstSegment, kR_isInner, kR_joined, kR_meetX, kR_meetY, kR_numberOf, kR_partFrom, kR_partMany, kR_passRing, kR_passTouch, kR_passes, kR_place, kR_ringFrom, kR_ringMany, kR_ringNumber, kR_ringOf, kR_ringPart, kR_ringSize, kR_segments, kR_shapeOf, kR_sx, kR_sy, kR_thrown, kR_touchMany, kR_touchX, kR_touchY] σ rr_.2.2.2 ∧ (FLw σ slot_0 rr_.1 rr_.2.1) ∧ (GTb rr_.2.2.2) ∧ (rr_.2.2.2 kR_ringMany 0 + 2 * x_58 = rr_.1 - (p_44 + 2)) ∧ (su_ (rr_.2.2.2 kR_ringSize) 0 (rr_.2.2.2 kR_ringMany 0).toNat = rr_.2.1 - point_45) ∧ (p_44 + 2 + 2 * x_58 ≤ rr_.1)) ?_ ?_
                · have c46 := ii_kR_partMany hσ_61 0
                  have c47 := sg_val eσ_61
                  have c48 := ii_kR_ringMany hσ_61 0
                  have c49 := FR_at flσ_61 (c := kR_ringMany) (by decide) 0
                  have c50 := ii_kR_ringMany hσ_60 0
                  have c51 := sg_val eσ_60
                  refine wp_whl (fun ss_ => II ss_.2.2.2 ∧ FR [kR_ex, kR_ey, kR_firstSegment, kR_isInner, kR_joined, kR_meetX, kR_meetY, kR_numberOf, kR_partFrom, kR_partMany, kR_passRing, kR_passTouch, kR_passes, kR_place, kR_ringFrom, kR_ringMany, kR_ringNumber, kR_ringOf, kR_ringPart, kR_ringSize, kR_segments, kR_shapeOf, kR_sx, kR_sy, kR_thrown, kR_touchMany, kR_touchX, kR_touchY] σ ss_.2.2.2 ∧ (FLw σ slot_0 ss_.1 ss_.2.1) ∧ (PT (σ kR_plan) 3 (x_58 - ss_.2.2.1).toNat ss_.1 rr) ∧ (GTb ss_.2.2.2) ∧ (0 ≤ ss_.2.2.1 ∧ ss_.2.2.1 ≤ x_58) ∧ (ss_.2.2.2 kR_partMany 0 = ss_.2.2.1) ∧ (ss_.2.2.2 kR_ringMany 0 + 2 * ss_.2.2.1 = ss_.1 - (p_44 + 2)) ∧ (0 ≤ ss_.2.2.2 kR_ringMany 0) ∧ (su_ (ss_.2.2.2 kR_ringSize) 0 (ss_.2.2.2 kR_ringMany 0).toNat = ss_.2.1 - point_45)) (fun ss_ => (4096 - ss_.2.2.1).toNat) ⟨hσ_61, frσ_61, (by (try dsimp only) <;> (first | exact hnl | (rw [e_x_91, show p_76 + (2 + σ kR_plan (p_76 + 1)) = p_76 + eL (σ kR_plan) p_76 by omega, hg1]; exact hn9))), (by (try dsimp only) <;> (first | (rw [show x_58 - 0 = σ kR_plan (p_44 + 1) by omega]; exact hpt) | (rw [e_x_91, show (2 : Int) + σ kR_plan (p_76 + 1) = eL (σ kR_plan) p_76 by omega]; exact hp3))), (by (try dsimp only) <;> (first | exact gt61 | assumption)), (by (try dsimp only) <;> first | assumption | omega | ((try simp (disch := omega) only [w32_of, w64_of, w8_of]) <;> first | assumption | omega | (split <;> omega) | (refine And.intro ?_ ?_ <;> split <;> omega)) | omega), (by (try dsimp only) <;> first | assumption | omega | ((try simp (disch := omega) only [w32_of, w64_of, w8_of]) <;> first | assumption | omega | (split <;> omega) | (refine And.intro ?_ ?_ <;> split <;> omega)) | omega), (by (try dsimp only) <;> first | assumption | omega | ((try simp (disch := omega) only [w32_of, w64_of, w8_of]) <;> first | assumption | omega | (split <;> omega) | (refine And.intro ?_ ?_ <;> split <;> omega)) | omega), (by (try dsimp only) <;> first | assumption | omega | ((try simp (disch := omega) only [w32_of, w64_of, w8_of]) <;> first | assumption | omega | (split <;> omega) | (refine And.intro ?_ ?_ <;> split <;> omega)) | omega), (by (try dsimp only) <;> (first | (rw [m61]; show (0 : Int) = _; omega) | (rw [hg2]; omega)))⟩ ?_
                  rintro ⟨p_76, point_77, k_78, σ_79⟩ y56
                  try dsimp only at y56 ⊢
                  obtain ⟨hσ_79, frσ_79, gw9, gp, gg, g52, g53, g54, g55, gs⟩ := y56
                  have gpl := PT_le gp
                  have hle9 := FLw_le gw9
                  have c58 := w32_rng k_78
                  have c59 := w32_rng x_58
                  refine wp_if (fun c57 => ?_) (fun c57 => ?_)
                  · try simp (disch := omega) only [w32_of, w64_of, w8_of, decide_eq_true_eq, decide_eq_false_iff_not, Bool.not_eq_true] at c57
                    have hp79 : σ_79 kR_plan = σ kR_plan := funext (FR_at frσ_79 (by decide))
                    obtain ⟨hp1, hp2, hp3⟩ : σ kR_plan p_76 = 3 ∧ 0 ≤ σ kR_plan (p_76 + 1) ∧ PT (σ kR_plan) 3 (x_58 - (k_78 + 1)).toNat (p_76 + eL (σ kR_plan) p_76) rr := by
                      rw [show (x_58 - k_78).toNat = (x_58 - (k_78 + 1)).toNat + 1 by omega] at gp
                      exact gp
                    have hpl3 := PT_le hp3
                    have el9 := el_3 hp1
                    obtain ⟨ho9, hn9, i2, i3, i4, i5, -⟩ := FLw_hd gw9 (by omega)
                    have c60 := FR_at frσ_79 (c := kR_plan) (by decide) p_76
                    have c61 := ii_kR_partMany hσ_79 0
                    have c62 := ii_kR_ringMany hσ_79 0
                    have c63 := FR_at frσ_79 (c := kR_plan) (by decide) (p_76 + 1)
                    refine wp_bd (s_R_gather (σ := σ_79) (slot_0 := slot_0) (from_0 := p_76) (first_0 := point_77) (part_0 := k_78) hσ_79 (by (try dsimp only) <;> first | assumption | omega | ((try simp (disch := omega) only [w32_of, w64_of, w8_of]) <;> first | assumption | omega | (split <;> omega) | (refine And.intro ?_ ?_ <;> split <;> omega)) | omega) (by (try dsimp only) <;> first | assumption | omega | ((try simp (disch := omega) only [w32_of, w64_of, w8_of]) <;> first | assumption | omega | (split <;> omega) | (refine And.intro ?_ ?_ <;> split <;> omega)) | omega) (by first | (rw [hpl]; exact ho) | (rw [hp79]; exact ho9)) (by first | (rw [hpl]; omega) | (rw [hp79]; exact hp1)) (by (try dsimp only) <;> first | assumption | omega | ((try simp (disch := omega) only [w32_of, w64_of, w8_of]) <;> first | assumption | omega | (split <;> omega) | (refine And.intro ?_ ?_ <;> split <;> omega)) | omega) (by first | (rw [hpl]; omega) | (rw [hp79]; omega)) (by (try dsimp only) <;> first | assumption | omega | ((try simp (disch := omega) only [w32_of, w64_of, w8_of]) <;> first | assumption | omega | (split <;> omega) | (refine And.intro ?_ ?_ <;> split <;> omega)) | omega) (by first | (rw [hpl]; omega) | (rw [hp79]; omega)) (by (try dsimp only) <;> first | assumption | omega | ((try simp (disch := omega) only [w32_of, w64_of, w8_of]) <;> first | assumption | omega | (split <;> omega) | (refine And.intro ?_ ?_ <;> split <;> omega)) | omega) (by (try dsimp only) <;> first | assumption | omega | ((try simp (disch := omega) only [w32_of, w64_of, w8_of]) <;> first | assumption | omega | (split <;> omega) | (refine And.intro ?_ ?_ <;> split <;> omega)) | omega) (by first | (rw [hpl]; omega) | (rw [hp79]; omega)) (by first | exact gt61 | exact gg) (by first | (rw [m61, hpl]; show (0 : Int) + _ ≤ _; omega) | (rw [gs, hp79]; omega))) ?_
                    rintro ⟨x_90, σ_89⟩ - y64
                    try dsimp only at y64 ⊢
                    obtain ⟨hσ_89, flσ_89, hg1, hg0, hgt, hg2, hg3⟩ := y64
                    have frσ_89 : FR [kR_ex, kR_ey, kR_firstSegment, kR_isInner, kR_joined, kR_meetX, kR_meetY, kR_numberOf, kR_partFrom, kR_partMany, kR_passRing, kR_passTouch, kR_passes, kR_place, kR_ringFrom, kR_ringMany, kR_ringNumber, kR_ringOf, kR_ringPart, kR_ringSize, kR_segments, kR_shapeOf, kR_sx, kR_sy, kR_thrown, kR_touchMany, kR_touchX, kR_touchY] σ σ_89 := FR_tr frσ_79 flσ_89 (by decide) (by decide)
                    try simp (disch := omega) only [w32_of, w64_of, w8_of] at hg1
                    have c65 := ii_kR_ringMany hσ_89 0
                    try simp (disch := omega) only [w32_of, w64_of, w8_of] at hg0
                    try simp (disch := omega) only [w32_of, w64_of, w8_of] at hgt
                    try simp (disch := omega) only [w32_of, w64_of, w8_of] at hg2
                    have c66 := ii_kR_partMany hσ_89 0
                    try simp (disch := omega) only [w32_of, w64_of, w8_of] at hg3
                    have c67 := w32_rng (p_76 + 1)
                    refine wp_rdI (by (try dsimp only) <;> first | assumption | omega | ((try simp (disch := omega) only [w32_of, w64_of, w8_of]) <;> first | assumption | omega | (split <;> omega) | (refine And.intro ?_ ?_ <;> split <;> omega)) | omega) (by (try dsimp only) <;> first | assumption | omega | ((try simp (disch := omega) only [w32_of, w64_of, w8_of]) <;> first | assumption | omega | (split <;> omega) | (refine And.intro ?_ ?_ <;> split <;> omega)) | omega) (fun x_91 e_x_91 => ?_)
                    rw [FR_at frσ_89 (c := kR_plan) (by decide)] at e_x_91
                    try simp (disch := omega) only [w32_of, w64_of, w8_of] at e_x_91
                    rw [hp79] at hg1 hg2 hg0
                    exact wp_some (x_inl ⟨⟨hσ_89, frσ_89, (by (try dsimp only) <;> (first | exact hnl | (rw [e_x_91, show p_76 + (2 + σ kR_plan (p_76 + 1)) = p_76 + eL (σ kR_plan) p_76 by omega, hg1]; exact hn9))), (by (try dsimp only) <;> (first | (rw [show x_58 - 0 = σ kR_plan (p_44 + 1) by omega]; exact hpt) | (rw [e_x_91, show (2 : Int) + σ kR_plan (p_76 + 1) = eL (σ kR_plan) p_76 by omega]; exact hp3))), (by (try dsimp only) <;> (first | exact gt61 | assumption)), (by (try dsimp only) <;> first | assumption | omega | ((try simp (disch := omega) only [w32_of, w64_of, w8_of]) <;> first | assumption | omega | (split <;> omega) | (refine And.intro ?_ ?_ <;> split <;> omega)) | omega), (by (try dsimp only) <;> first | assumption | omega | ((try simp (disch := omega) only [w32_of, w64_of, w8_of]) <;> first | assumption | omega | (split <;> omega) | (refine And.intro ?_ ?_ <;> split <;> omega)) | omega), (by (try dsimp only) <;> first | assumption | omega | ((try simp (disch := omega) only [w32_of, w64_of, w8_of]) <;> first | assumption | omega | (split <;> omega) | (refine And.intro ?_ ?_ <;> split <;> omega)) | omega), (by (try dsimp only) <;> first | assumption | omega | ((try simp (disch := omega) only [w32_of, w64_of, w8_of]) <;> first | assumption | omega | (split <;> omega) | (refine And.intro ?_ ?_ <;> split <;> omega)) | omega), (by (try dsimp only) <;> (first | (rw [m61]; show (0 : Int) = _; omega) | (rw [hg2]; omega)))⟩, (by (try dsimp only) <;> first | assumption | omega | ((try simp (disch := omega) only [w32_of, w64_of, w8_of]) <;> first | assumption | omega | (split <;> omega) | (refine And.intro ?_ ?_ <;> split <;> omega)) | omega)⟩)
                  · try simp (disch := omega) only [w32_of, w64_of, w8_of, decide_eq_true_eq, decide_eq_false_iff_not, Bool.not_eq_true] at c57
                    have gpe := PT_le gp
                    have c68 := ii_kR_ringMany hσ_79 0
                    exact wp_some (x_inr ⟨(by (try dsimp only) <;> first | assumption | omega | ((try simp (disch := omega) only [w32_of, w64_of, w8_of]) <;> first | assumption | omega | (split <;> omega) | (refine And.intro ?_ ?_ <;> split <;> omega)) | omega), hσ_79, frσ_79, (by (try dsimp only) <;> (exact gw9)), (by (try dsimp only) <;> (exact gg)), (by (try dsimp only) <;> first | assumption | omega | ((try simp (disch := omega) only [w32_of, w64_of, w8_of]) <;> first | assumption | omega | (split <;> omega) | (refine And.intro ?_ ?_ <;> split <;> omega)) | omega), (by (try dsimp only) <;> (exact gs)), (by (try dsimp only) <;> first | assumption | omega | ((try simp (disch := omega) only [w32_of, w64_of, w8_of]) <;> first | assumption | omega | (split <;> omega) | (refine And.intro ?_ ?_ <;> split <;> omega)) | omega)⟩)
                rintro ⟨p_95, point_96, k_97, σ_98⟩ _ y70
                try dsimp only at y70 ⊢
                obtain ⟨g69, hσ_98, frσ_98, gw9, gg, gz1, gs, gz2⟩ := y70
                have hle9 := FLw_le gw9
                refine wp_somek ?_
                try dsimp only
                have c71 := ii_kR_ringMany hσ_98 0
                exact wp_some ⟨(by (try dsimp only) <;> first | assumption | omega | ((try simp (disch := omega) only [w32_of, w64_of, w8_of]) <;> first | assumption | omega | (split <;> omega) | (refine And.intro ?_ ?_ <;> split <;> omega)) | omega), hσ_98, frσ_98, (by (try dsimp only) <;> (first | (rw [show p_44 + 2 + x_58 = p_44 + eL (σ kR_plan) p_44 by omega, hg1]; exact hn) | exact gw9 | (rw [show p_44 + 2 = p_44 + eL (σ kR_plan) p_44 by omega, show point_45 + x_58 = point_45 + eP (σ kR_plan) p_44 by omega]; exact hn) | (rw [show p_44 + 2 = p_44 + eL (σ kR_plan) p_44 by omega]; have hz := hn; rw [ep_g (by omega), Int.add_zero] at hz; exact hz))), (by (try dsimp only) <;> (first | assumption | exact gt61)), (by (try dsimp only) <;> first | assumption | omega | ((try simp (disch := omega) only [w32_of, w64_of, w8_of]) <;> first | assumption | omega | (split <;> omega) | (refine And.intro ?_ ?_ <;> split <;> omega)) | omega), (by (try dsimp only) <;> (first | (rw [m61]; show (0 : Int) ≤ 2048; decide) | (rw [hg2, m61]; show (0 : Int) + _ ≤ _; omega) | omega)), (by (try dsimp only) <;> (refine ⟨by omega, fun q => by omega⟩))⟩
              · try simp (disch := omega) only [w32_of, w64_of, w8_of, decide_eq_true_eq, decide_eq_false_iff_not, Bool.not_eq_true] at c45
                have eln := el_n (show ¬ σ kR_plan p_44 = 3 by omega)
                refine wp_bdk ?_
                refine wp_if (fun c72 => ?_) (fun c72 => ?_)
                · try simp (disch := omega) only [w32_of, w64_of, w8_of, decide_eq_true_eq, decide_eq_false_iff_not, Bool.not_eq_true] at c72
                  have epl := ep_l (show σ kR_plan p_44 < 3 by omega)
                  refine wp_bd (P := fun rr_ => (0 ≤ rr_ ∧ rr_ ≤ 2)) ?_ ?_
                  · refine wp_if (fun c73 => ?_) (fun c73 => ?_)
                    · try simp (disch := omega) only [w32_of, w64_of, w8_of, decide_eq_true_eq, decide_eq_false_iff_not, Bool.not_eq_true] at c73
                      have c75 := w32_rng x_58
                      refine wp_if (fun c74 => ?_) (fun c74 => ?_)
                      · try simp (disch := omega) only [w32_of, w64_of, w8_of, decide_eq_true_eq, decide_eq_false_iff_not, Bool.not_eq_true] at c74
                        refine wp_bd (s_R_different (σ := σ_61) (from_0 := point_45) (n_0 := x_58) hσ_61 (by (try dsimp only) <;> first | assumption | omega | ((try simp (disch := omega) only [w32_of, w64_of, w8_of]) <;> first | assumption | omega | (split <;> omega) | (refine And.intro ?_ ?_ <;> split <;> omega)) | omega) (by (try dsimp only) <;> first | assumption | omega | ((try simp (disch := omega) only [w32_of, w64_of, w8_of]) <;> first | assumption | omega | (split <;> omega) | (refine And.intro ?_ ?_ <;> split <;> omega)) | omega) (by (try dsimp only) <;> first | assumption | omega | ((try simp (disch := omega) only [w32_of, w64_of, w8_of]) <;> first | assumption | omega | (split <;> omega) | (refine And.intro ?_ ?_ <;> split <;> omega)) | omega)) ?_
                        rintro x_119 - g76
                        try simp (disch := omega) only [w32_of, w64_of, w8_of] at g76
                        have c78 := w32_rng x_119
                        refine wp_if (fun c77 => ?_) (fun c77 => ?_)
                        · try simp (disch := omega) only [w32_of, w64_of, w8_of, decide_eq_true_eq, decide_eq_false_iff_not, Bool.not_eq_true] at c77
                          exact wp_some (by (try dsimp only) <;> first | assumption | omega | ((try simp (disch := omega) only [w32_of, w64_of, w8_of]) <;> first | assumption | omega | (split <;> omega) | (refine And.intro ?_ ?_ <;> split <;> omega)) | omega)
                        · try simp (disch := omega) only [w32_of, w64_of, w8_of, decide_eq_true_eq, decide_eq_false_iff_not, Bool.not_eq_true] at c77
                          exact wp_some (by (try dsimp only) <;> first | assumption | omega | ((try simp (disch := omega) only [w32_of, w64_of, w8_of]) <;> first | assumption | omega | (split <;> omega) | (refine And.intro ?_ ?_ <;> split <;> omega)) | omega)
                      · try simp (disch := omega) only [w32_of, w64_of, w8_of, decide_eq_true_eq, decide_eq_false_iff_not, Bool.not_eq_true] at c74
                        exact wp_some (by (try dsimp only) <;> first | assumption | omega | ((try simp (disch := omega) only [w32_of, w64_of, w8_of]) <;> first | assumption | omega | (split <;> omega) | (refine And.intro ?_ ?_ <;> split <;> omega)) | omega)
                    · try simp (disch := omega) only [w32_of, w64_of, w8_of, decide_eq_true_eq, decide_eq_false_iff_not, Bool.not_eq_true] at c73
                      exact wp_some (by (try dsimp only) <;> first | assumption | omega | ((try simp (disch := omega) only [w32_of, w64_of, w8_of]) <;> first | assumption | omega | (split <;> omega) | (refine And.intro ?_ ?_ <;> split <;> omega)) | omega)
                  rintro x_125 _ g79
                  refine wp_somek ?_
                  try dsimp only
                  refine wp_somek ?_
                  try dsimp only
                  have c80 := ii_kR_ringMany hσ_61 0
                  have c81 := FR_at flσ_61 (c := kR_ringMany) (by decide) 0
                  have c82 := ii_kR_ringMany hσ_60 0
                  have c83 := sg_val eσ_60
                  exact wp_some ⟨(by (try dsimp only) <;> first | assumption | omega | ((try simp (disch := omega) only [w32_of, w64_of, w8_of]) <;> first | assumption | omega | (split <;> omega) | (refine And.intro ?_ ?_ <;> split <;> omega)) | omega), hσ_61, frσ_61, (by (try dsimp only) <;> (first | (rw [show p_44 + 2 + x_58 = p_44 + eL (σ kR_plan) p_44 by omega, hg1]; exact hn) | exact gw9 | (rw [show p_44 + 2 = p_44 + eL (σ kR_plan) p_44 by omega, show point_45 + x_58 = point_45 + eP (σ kR_plan) p_44 by omega]; exact hn) | (rw [show p_44 + 2 = p_44 + eL (σ kR_plan) p_44 by omega]; have hz := hn; rw [ep_g (by omega), Int.add_zero] at hz; exact hz))), (by (try dsimp only) <;> (first | assumption | exact gt61)), (by (try dsimp only) <;> first | assumption | omega | ((try simp (disch := omega) only [w32_of, w64_of, w8_of]) <;> first | assumption | omega | (split <;> omega) | (refine And.intro ?_ ?_ <;> split <;> omega)) | omega), (by (try dsimp only) <;> (first | (rw [m61]; show (0 : Int) ≤ 2048; decide) | (rw [hg2, m61]; show (0 : Int) + _ ≤ _; omega) | omega)), (by (try dsimp only) <;> (refine ⟨by omega, fun q => by omega⟩))⟩
                · try simp (disch := omega) only [w32_of, w64_of, w8_of, decide_eq_true_eq, decide_eq_false_iff_not, Bool.not_eq_true] at c72
                  refine wp_somek ?_
                  try dsimp only
                  refine wp_somek ?_
                  try dsimp only
                  have c84 := ii_kR_ringMany hσ_61 0
                  have c85 := FR_at flσ_61 (c := kR_ringMany) (by decide) 0
                  have c86 := ii_kR_ringMany hσ_60 0
                  have c87 := sg_val eσ_60
                  exact wp_some ⟨(by (try dsimp only) <;> first | assumption | omega | ((try simp (disch := omega) only [w32_of, w64_of, w8_of]) <;> first | assumption | omega | (split <;> omega) | (refine And.intro ?_ ?_ <;> split <;> omega)) | omega), hσ_61, frσ_61, (by (try dsimp only) <;> (first | (rw [show p_44 + 2 + x_58 = p_44 + eL (σ kR_plan) p_44 by omega, hg1]; exact hn) | exact gw9 | (rw [show p_44 + 2 = p_44 + eL (σ kR_plan) p_44 by omega, show point_45 + x_58 = point_45 + eP (σ kR_plan) p_44 by omega]; exact hn) | (rw [show p_44 + 2 = p_44 + eL (σ kR_plan) p_44 by omega]; have hz := hn; rw [ep_g (by omega), Int.add_zero] at hz; exact hz))), (by (try dsimp only) <;> (first | assumption | exact gt61)), (by (try dsimp only) <;> first | assumption | omega | ((try simp (disch := omega) only [w32_of, w64_of, w8_of]) <;> first | assumption | omega | (split <;> omega) | (refine And.intro ?_ ?_ <;> split <;> omega)) | omega), (by (try dsimp only) <;> (first | (rw [m61]; show (0 : Int) ≤ 2048; decide) | (rw [hg2, m61]; show (0 : Int) + _ ≤ _; omega) | omega)), (by (try dsimp only) <;> (refine ⟨by omega, fun q => by omega⟩))⟩
          rintro ⟨p_142, point_143, f_144, σ_145⟩ _ y89
          try dsimp only at y89 ⊢
          obtain ⟨g88, hσ_145, frσ_145, gw2, gg2, gm2, gs2, gq2⟩ := y89
          have c90 := ii_kR_ringMany hσ_145 0
          refine wp_bd (s_R_segmentsOfRings (σ := σ_145) hσ_145 gg2 (by (try dsimp only) <;> first | assumption | omega | ((try simp (disch := omega) only [w32_of, w64_of, w8_of]) <;> first | assumption | omega | (split <;> omega) | (refine And.intro ?_ ?_ <;> split <;> omega)) | omega) (by (try dsimp only) <;> first | assumption | omega | ((try simp (disch := omega) only [w32_of, w64_of, w8_of]) <;> first | assumption | omega | (split <;> omega) | (refine And.intro ?_ ?_ <;> split <;> omega)) | omega)) ?_
          rintro σ_147 - ⟨hσ_147, flσ_147, g91⟩
          have frσ_147 : FR [kR_ex, kR_ey, kR_firstSegment, kR_isInner, kR_joined, kR_meetX, kR_meetY, kR_numberOf, kR_partFrom, kR_partMany, kR_passRing, kR_passTouch, kR_passes, kR_place, kR_ringFrom, kR_ringMany, kR_ringNumber, kR_ringOf, kR_ringPart, kR_ringSize, kR_segments, kR_shapeOf, kR_sx, kR_sy, kR_thrown, kR_touchMany, kR_touchX, kR_touchY] σ σ_147 := FR_tr frσ_145 flσ_147 (by decide) (by decide)
          try simp (disch := omega) only [w32_of, w64_of, w8_of] at g91
          refine wp_bd (P := fun rr_ => (0 ≤ rr_.1 ∧ rr_.1 ≤ 15) ∧ II rr_.2 ∧ FR [kR_ex, kR_ey, kR_firstSegment, kR_isInner, kR_joined, kR_meetX, kR_meetY, kR_numberOf, kR_partFrom, kR_partMany, kR_passRing, kR_passTouch, kR_passes, kR_place, kR_ringFrom, kR_ringMany, kR_ringNumber, kR_ringOf, kR_ringPart, kR_ringSize, kR_segments, kR_shapeOf, kR_sx, kR_sy, kR_thrown, kR_touchMany, kR_touchX, kR_touchY] σ rr_.2) ?_ ?_
          · have c93 := w32_rng f_144
            refine wp_if (fun c92 => ?_) (fun c92 => ?_)
            · try simp (disch := omega) only [w32_of, w64_of, w8_of, decide_eq_true_eq, decide_eq_false_iff_not, Bool.not_eq_true] at c92
              refine wp_bd (s_R_judgeParts (σ := σ_147) hσ_147 g91) ?_
              rintro ⟨x_154, σ_153⟩ - y95
              try dsimp only at y95 ⊢
              obtain ⟨g94, hσ_153, flσ_153⟩ := y95
              have frσ_153 : FR [kR_ex, kR_ey, kR_firstSegment, kR_isInner, kR_joined, kR_meetX, kR_meetY, kR_numberOf, kR_partFrom, kR_partMany, kR_passRing, kR_passTouch, kR_passes, kR_place, kR_ringFrom, kR_ringMany, kR_ringNumber, kR_ringOf, kR_ringPart, kR_ringSize, kR_segments, kR_shapeOf, kR_sx, kR_sy, kR_thrown, kR_touchMany, kR_touchX, kR_touchY] σ σ_153 := FR_tr frσ_147 flσ_153 (by decide) (by decide)
              try simp (disch := omega) only [w32_of, w64_of, w8_of] at g94
              exact wp_some ⟨(by (try dsimp only) <;> first | assumption | omega | ((try simp (disch := omega) only [w32_of, w64_of, w8_of]) <;> first | assumption | omega | (split <;> omega) | (refine And.intro ?_ ?_ <;> split <;> omega)) | omega), hσ_153, frσ_153⟩
            · try simp (disch := omega) only [w32_of, w64_of, w8_of, decide_eq_true_eq, decide_eq_false_iff_not, Bool.not_eq_true] at c92
              exact wp_some ⟨(by (try dsimp only) <;> first | assumption | omega | ((try simp (disch := omega) only [w32_of, w64_of, w8_of]) <;> first | assumption | omega | (split <;> omega) | (refine And.intro ?_ ?_ <;> split <;> omega)) | omega), hσ_147, frσ_147⟩
          rintro ⟨x_157, σ_158⟩ _ y97
          try dsimp only at y97 ⊢
          obtain ⟨g96, hσ_158, frσ_158⟩ := y97
          have c99 := w32_rng x_157
          refine wp_if (fun c98 => ?_) (fun c98 => ?_)
          · try simp (disch := omega) only [w32_of, w64_of, w8_of, decide_eq_true_eq, decide_eq_false_iff_not, Bool.not_eq_true] at c98
            refine wp_waI hσ_158 b_kR_place (by (try dsimp only) <;> first | assumption | omega | ((try simp (disch := omega) only [w32_of, w64_of, w8_of]) <;> first | assumption | omega | (split <;> omega) | (refine And.intro ?_ ?_ <;> split <;> omega)) | omega) (by (try dsimp only) <;> first | assumption | omega | ((try simp (disch := omega) only [w32_of, w64_of, w8_of]) <;> first | assumption | omega | (split <;> omega) | (refine And.intro ?_ ?_ <;> split <;> omega)) | omega) (by (try dsimp only) <;> first | assumption | omega | ((try simp (disch := omega) only [w32_of, w64_of, w8_of]) <;> first | assumption | omega | (split <;> omega) | (refine And.intro ?_ ?_ <;> split <;> omega)) | omega) (fun σ_160 hσ_160 eσ_160 => ?_)
            try simp (disch := omega) only [w32_of, w64_of, w8_of] at eσ_160
            have flσ_160 := FR_sg eσ_160
            have frσ_160 : FR [kR_ex, kR_ey, kR_firstSegment, kR_isInner, kR_joined, kR_meetX, kR_meetY, kR_numberOf, kR_partFrom, kR_partMany, kR_passRing, kR_passTouch, kR_passes, kR_place, kR_ringFrom, kR_ringMany, kR_ringNumber, kR_ringOf, kR_ringPart, kR_ringSize, kR_segments, kR_shapeOf, kR_sx, kR_sy, kR_thrown, kR_touchMany, kR_touchX, kR_touchY] σ σ_160 := FR_tr frσ_158 flσ_160 (by decide) (by decide)
            exact wp_some (x_inr (x_inr ⟨(by (try dsimp only) <;> first | assumption | omega | ((try simp (disch := omega) only [w32_of, w64_of, w8_of]) <;> first | assumption | omega | (split <;> omega) | (refine And.intro ?_ ?_ <;> split <;> omega)) | omega), hσ_160, frσ_160⟩))
          · try simp (disch := omega) only [w32_of, w64_of, w8_of, decide_eq_true_eq, decide_eq_false_iff_not, Bool.not_eq_true] at c98
            exact wp_some (x_inl ⟨⟨hσ_158, frσ_158, (by (try dsimp only) <;> (first | assumption | exact FLw_0 (w0 _ (by omega) (by omega)))), (by (try dsimp only) <;> first | assumption | omega | ((try simp (disch := omega) only [w32_of, w64_of, w8_of]) <;> first | assumption | omega | (split <;> omega) | (refine And.intro ?_ ?_ <;> split <;> omega)) | omega), (by (try dsimp only) <;> first | assumption | omega | ((try simp (disch := omega) only [w32_of, w64_of, w8_of]) <;> first | assumption | omega | (split <;> omega) | (refine And.intro ?_ ?_ <;> split <;> omega)) | omega)⟩, (by (try dsimp only) <;> first | assumption | omega | ((try simp (disch := omega) only [w32_of, w64_of, w8_of]) <;> first | assumption | omega | (split <;> omega) | (refine And.intro ?_ ?_ <;> split <;> omega)) | omega)⟩)
        · try simp (disch := omega) only [w32_of, w64_of, w8_of, decide_eq_true_eq, decide_eq_false_iff_not, Bool.not_eq_true] at c24
          exact wp_some (x_inr (x_inl ⟨(by (try dsimp only) <;> first | assumption | omega | ((try simp (disch := omega) only [w32_of, w64_of, w8_of]) <;> first | assumption | omega | (split <;> omega) | (refine And.intro ?_ ?_ <;> split <;> omega)) | omega), hσ_47, frσ_47⟩))
      rintro ⟨p_171, point_172, shape_173, σ_174⟩ y101
      try dsimp only at y101 ⊢
      obtain ⟨g100, hσ_174, frσ_174⟩ := y101
      exact wp_some ⟨(by (try dsimp only) <;> first | assumption | omega | ((try simp (disch := omega) only [w32_of, w64_of, w8_of]) <;> first | assumption | omega | (split <;> omega) | (refine And.intro ?_ ?_ <;> split <;> omega)) | omega), hσ_174, frσ_174⟩
    · have k102 := fun q => c14 (g8.mpr q)
      try simp (disch := omega) only [w32_of, w64_of, w8_of] at k102
      try simp (disch := omega) only [w32_of, w64_of, w8_of, decide_eq_true_eq, decide_eq_false_iff_not, Bool.not_eq_true] at c14
      refine wp_somek ?_
      try dsimp only
      have c105 := ii_kR_thrown hσ_27 0
      refine wp_fails hσ_27 (by (try dsimp only) <;> first | assumption | omega | ((try simp (disch := omega) only [w32_of, w64_of, w8_of]) <;> first | assumption | omega | (split <;> omega) | (refine And.intro ?_ ?_ <;> split <;> omega)) | omega) (by decide) (fun σ_37 hσ_37 flσ_37 e103 e104 => ?_)
      try dsimp only
      have frσ_37 : FR [kR_ex, kR_ey, kR_firstSegment, kR_isInner, kR_joined, kR_meetX, kR_meetY, kR_numberOf, kR_partFrom, kR_partMany, kR_passRing, kR_passTouch, kR_passes, kR_place, kR_ringFrom, kR_ringMany, kR_ringNumber, kR_ringOf, kR_ringPart, kR_ringSize, kR_segments, kR_shapeOf, kR_sx, kR_sy, kR_thrown, kR_touchMany, kR_touchX, kR_touchY] σ σ_37 := FR_tr frσ_27 flσ_37 (by decide) (by decide)
      have k106 := e103 rfl
      refine wp_tt ?_
      exact wp_some ⟨(by (try dsimp only) <;> first | assumption | omega | ((try simp (disch := omega) only [w32_of, w64_of, w8_of]) <;> first | assumption | omega | (split <;> omega) | (refine And.intro ?_ ?_ <;> split <;> omega)) | omega), hσ_37, frσ_37⟩
