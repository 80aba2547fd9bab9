theorem v_overlay {σ : SG} {what_0 : Int} {slot_0 : Int} {other_0 : Int} {to_0 : Int} (hσ : II σ) (qwhat_0 : (-2147483648) ≤ what_0 ∧ what_0 ≤ 2147483647) (qslot_0 : (-2147483648) ≤ slot_0 ∧ slot_0 ≤ 2147483647) (qother_0 : (-2147483648) ≤ other_0 ∧ other_0 ≤ 2147483647) (qto_0 : (-2147483648) ≤ to_0 ∧ to_0 ≤ 2147483647) (w0 : SHs σ) : wp_ (fR_overlay σ what_0 slot_0 other_0 to_0) (fun zz_ => II zz_.2 ∧ FR [kR_pieceBits, kR_pieceFrom, kR_pieceTo, kR_chain, kR_chainDen, kR_chainMany, kR_chainNum, kR_chainOpen, kR_chained, kR_corner, kR_corners, kR_edgeDone, kR_edgeFrom, kR_edgeTo, kR_edges, kR_ex, kR_ey, kR_highDen, kR_highNum, kR_highOpen, kR_hotX, kR_hotY, kR_hots, kR_isInner, kR_lowDen, kR_lowNum, kR_lowOpen, kR_meetX, kR_meetY, kR_numberOf, kR_onWay, kR_outArea, kR_outFrom, kR_outMany, kR_outShell, kR_outs, kR_pieces, kR_plan, kR_planMany, kR_pointMany, kR_ringOf, kR_segments, kR_shapeOf, kR_sx, kR_sy, kR_thrown, kR_way, kR_wayMany, kR_xs, kR_ys] σ zz_.2 ∧ (SHs zz_.2)) := by
  unfold fR_overlay
  refine wp_wfI hσ b_kR_thrown (by (try dsimp only) <;> first | assumption | omega | ((try simp (disch := omega) only [w32_of, w64_of, w8_of]) <;> first | assumption | omega | (split <;> omega) | (refine And.intro ?_ ?_ <;> split <;> omega)) | omega) (fun σ_1 hσ_1 eσ_1 => ?_)
  try simp (disch := omega) only [w32_of, w64_of, w8_of] at eσ_1
  have flσ_1 := FR_sg eσ_1
  have frσ_1 : FR [kR_pieceBits, kR_pieceFrom, kR_pieceTo, kR_chain, kR_chainDen, kR_chainMany, kR_chainNum, kR_chainOpen, kR_chained, kR_corner, kR_corners, kR_edgeDone, kR_edgeFrom, kR_edgeTo, kR_edges, kR_ex, kR_ey, kR_highDen, kR_highNum, kR_highOpen, kR_hotX, kR_hotY, kR_hots, kR_isInner, kR_lowDen, kR_lowNum, kR_lowOpen, kR_meetX, kR_meetY, kR_numberOf, kR_onWay, kR_outArea, kR_outFrom, kR_outMany, kR_outShell, kR_outs, kR_pieces, kR_plan, kR_planMany, kR_pointMany, kR_ringOf, kR_segments, kR_shapeOf, kR_sx, kR_sy, kR_thrown, kR_way, kR_wayMany, kR_xs, kR_ys] σ σ_1 := FR_le flσ_1 (by decide)
  have c3 := ii_kR_thrown hσ_1 0
  have c4 := sg_val eσ_1
  refine wp_fails hσ_1 (by (try dsimp only) <;> first | assumption | omega | ((try simp (disch := omega) only [w32_of, w64_of, w8_of]) <;> first | assumption | omega | (split <;> omega) | (refine And.intro ?_ ?_ <;> split <;> omega)) | omega) (by decide) (fun σ_33 hσ_33 flσ_33 e1 e2 => ?_)
  try dsimp only
  have frσ_33 : FR [kR_pieceBits, kR_pieceFrom, kR_pieceTo, kR_chain, kR_chainDen, kR_chainMany, kR_chainNum, kR_chainOpen, kR_chained, kR_corner, kR_corners, kR_edgeDone, kR_edgeFrom, kR_edgeTo, kR_edges, kR_ex, kR_ey, kR_highDen, kR_highNum, kR_highOpen, kR_hotX, kR_hotY, kR_hots, kR_isInner, kR_lowDen, kR_lowNum, kR_lowOpen, kR_meetX, kR_meetY, kR_numberOf, kR_onWay, kR_outArea, kR_outFrom, kR_outMany, kR_outShell, kR_outs, kR_pieces, kR_plan, kR_planMany, kR_pointMany, kR_ringOf, kR_segments, kR_shapeOf, kR_sx, kR_sy, kR_thrown, kR_way, kR_wayMany, kR_xs, kR_ys] σ σ_33 := FR_tr frσ_1 flσ_33 (by decide) (by decide)
  have s33 : SHs σ_33 := SHs_f flσ_33 (by decide) (SHs_f flσ_1 (by decide) w0)
  refine wp_if (fun c5 => ?_) (fun c5 => ?_)
  · have k6 := e1 c5
    try simp (disch := omega) only [w32_of, w64_of, w8_of, decide_eq_true_eq, decide_eq_false_iff_not, Bool.not_eq_true, fR_isSlot] at c5
    exact wp_some ⟨hσ_33, frσ_33, (by (try dsimp only) <;> (first | exact s123 | exact s119 | exact s107 | exact s63 | exact s47 | exact s33))⟩
  · have k7 := e2 c5
    try simp (disch := omega) only [w32_of, w64_of, w8_of, decide_eq_true_eq, decide_eq_false_iff_not, Bool.not_eq_true, fR_isSlot] at c5
    refine wp_bdk ?_
    refine wp_bd (v_has (σ := σ_33) (slot_0 := slot_0) hσ_33 (by (try dsimp only) <;> first | assumption | omega | ((try simp (disch := omega) only [w32_of, w64_of, w8_of]) <;> first | assumption | omega | (split <;> omega) | (refine And.intro ?_ ?_ <;> split <;> omega)) | omega)) ?_
    rintro x_37 - g8
    have c9 := ii_kR_planMany hσ_33 slot_0
    have c10 := FR_at flσ_33 (c := kR_planMany) (by decide) slot_0
    have c11 := ii_kR_planMany hσ_1 slot_0
    have c12 := FR_at flσ_1 (c := kR_planMany) (by decide) slot_0
    have c13 := ii_kR_planMany hσ slot_0
    try simp (disch := omega) only [w32_of, w64_of, w8_of] at g8
    refine wp_if (fun c14 => ?_) (fun c14 => ?_)
    · have k15 := g8.mp c14
      try simp (disch := omega) only [w32_of, w64_of, w8_of] at k15
      try simp (disch := omega) only [w32_of, w64_of, w8_of, decide_eq_true_eq, decide_eq_false_iff_not, Bool.not_eq_true] at c14
      refine wp_bd (v_has (σ := σ_33) (slot_0 := other_0) hσ_33 (by (try dsimp only) <;> first | assumption | omega | ((try simp (disch := omega) only [w32_of, w64_of, w8_of]) <;> first | assumption | omega | (split <;> omega) | (refine And.intro ?_ ?_ <;> split <;> omega)) | omega)) ?_
      rintro x_40 - g16
      have c17 := ii_kR_planMany hσ_33 other_0
      have c18 := FR_at flσ_33 (c := kR_planMany) (by decide) other_0
      have c19 := ii_kR_planMany hσ_1 other_0
      have c20 := FR_at flσ_1 (c := kR_planMany) (by decide) other_0
      have c21 := ii_kR_planMany hσ other_0
      try simp (disch := omega) only [w32_of, w64_of, w8_of] at g16
      refine wp_if (fun c22 => ?_) (fun c22 => ?_)
      · have k23 := g16.mp c22
        try simp (disch := omega) only [w32_of, w64_of, w8_of] at k23
        try simp (disch := omega) only [w32_of, w64_of, w8_of, decide_eq_true_eq, decide_eq_false_iff_not, Bool.not_eq_true] at c22
        refine wp_somek ?_
        try dsimp only
        have c26 := ii_kR_thrown hσ_33 0
        refine wp_fails hσ_33 (by (try dsimp only) <;> first | assumption | omega | ((try simp (disch := omega) only [w32_of, w64_of, w8_of]) <;> first | assumption | omega | (split <;> omega) | (refine And.intro ?_ ?_ <;> split <;> omega)) | omega) (by decide) (fun σ_47 hσ_47 flσ_47 e24 e25 => ?_)
        try dsimp only
        have frσ_47 : FR [kR_pieceBits, kR_pieceFrom, kR_pieceTo, kR_chain, kR_chainDen, kR_chainMany, kR_chainNum, kR_chainOpen, kR_chained, kR_corner, kR_corners, kR_edgeDone, kR_edgeFrom, kR_edgeTo, kR_edges, kR_ex, kR_ey, kR_highDen, kR_highNum, kR_highOpen, kR_hotX, kR_hotY, kR_hots, kR_isInner, kR_lowDen, kR_lowNum, kR_lowOpen, kR_meetX, kR_meetY, kR_numberOf, kR_onWay, kR_outArea, kR_outFrom, kR_outMany, kR_outShell, kR_outs, kR_pieces, kR_plan, kR_planMany, kR_pointMany, kR_ringOf, kR_segments, kR_shapeOf, kR_sx, kR_sy, kR_thrown, kR_way, kR_wayMany, kR_xs, kR_ys] σ σ_47 := FR_tr frσ_33 flσ_47 (by decide) (by decide)
        have k27 := e25 (by decide)
        have s47 : SHs σ_47 := SHs_f flσ_47 (by decide) s33
        refine wp_ft ?_
        refine wp_bd (P := fun rr_ => ((rr_ = false) → NRs σ_47 slot_0 ∧ NRs σ_47 other_0)) ?_ ?_
        · have c29 := w32_rng what_0
          refine wp_if (fun c28 => ?_) (fun c28 => ?_)
          · try simp (disch := omega) only [w32_of, w64_of, w8_of, decide_eq_true_eq, decide_eq_false_iff_not, Bool.not_eq_true, fR_in] at c28
            refine wp_bd (v_isLaid (σ := σ_47) (slot_0 := slot_0) hσ_47 (by (try dsimp only) <;> first | assumption | omega | ((try simp (disch := omega) only [w32_of, w64_of, w8_of]) <;> first | assumption | omega | (split <;> omega) | (refine And.intro ?_ ?_ <;> split <;> omega)) | omega)) ?_
            rintro x_52 - gl
            try simp (disch := omega) only [w32_of, w64_of, w8_of] at gl
            have gl1 := gl
            refine wp_if (fun c30 => ?_) (fun c30 => ?_)
            · have k31 := gl c30
              try simp (disch := omega) only [w32_of, w64_of, w8_of] at k31
              try simp (disch := omega) only [w32_of, w64_of, w8_of, decide_eq_true_eq, decide_eq_false_iff_not, Bool.not_eq_true] at c30
              refine wp_bd (v_isLaid (σ := σ_47) (slot_0 := other_0) hσ_47 (by (try dsimp only) <;> first | assumption | omega | ((try simp (disch := omega) only [w32_of, w64_of, w8_of]) <;> first | assumption | omega | (split <;> omega) | (refine And.intro ?_ ?_ <;> split <;> omega)) | omega)) ?_
              rintro x_55 - gl
              try simp (disch := omega) only [w32_of, w64_of, w8_of] at gl
              refine wp_if (fun c32 => ?_) (fun c32 => ?_)
              · have k33 := gl c32
                try simp (disch := omega) only [w32_of, w64_of, w8_of] at k33
                try simp (disch := omega) only [w32_of, w64_of, w8_of, decide_eq_true_eq, decide_eq_false_iff_not, Bool.not_eq_true] at c32
                exact wp_some (by (try dsimp only) <;> (first | (intro h; exact absurd h (by decide)) | (intro _; exact ⟨gl1 (by assumption), gl (by assumption)⟩)))
              · try simp (disch := omega) only [w32_of, w64_of, w8_of, decide_eq_true_eq, decide_eq_false_iff_not, Bool.not_eq_true] at c32
                exact wp_some (fun q => (by cases q))
            · try simp (disch := omega) only [w32_of, w64_of, w8_of, decide_eq_true_eq, decide_eq_false_iff_not, Bool.not_eq_true] at c30
              exact wp_some (fun q => (by cases q))
          · try simp (disch := omega) only [w32_of, w64_of, w8_of, decide_eq_true_eq, decide_eq_false_iff_not, Bool.not_eq_true, fR_in] at c28
            exact wp_some (fun q => (by cases q))
        rintro x_61 _ gz
        have c38 := ii_kR_thrown hσ_47 0
        refine wp_fails hσ_47 (by (try dsimp only) <;> first | assumption | omega | ((try simp (disch := omega) only [w32_of, w64_of, w8_of]) <;> first | assumption | omega | (split <;> omega) | (refine And.intro ?_ ?_ <;> split <;> omega)) | omega) (by decide) (fun σ_63 hσ_63 flσ_63 e36 e37 => ?_)
        try dsimp only
        have frσ_63 : FR [kR_pieceBits, kR_pieceFrom, kR_pieceTo, kR_chain, kR_chainDen, kR_chainMany, kR_chainNum, kR_chainOpen, kR_chained, kR_corner, kR_corners, kR_edgeDone, kR_edgeFrom, kR_edgeTo, kR_edges, kR_ex, kR_ey, kR_highDen, kR_highNum, kR_highOpen, kR_hotX, kR_hotY, kR_hots, kR_isInner, kR_lowDen, kR_lowNum, kR_lowOpen, kR_meetX, kR_meetY, kR_numberOf, kR_onWay, kR_outArea, kR_outFrom, kR_outMany, kR_outShell, kR_outs, kR_pieces, kR_plan, kR_planMany, kR_pointMany, kR_ringOf, kR_segments, kR_shapeOf, kR_sx, kR_sy, kR_thrown, kR_way, kR_wayMany, kR_xs, kR_ys] σ σ_63 := FR_tr frσ_47 flσ_63 (by decide) (by decide)
        have s63 : SHs σ_63 := SHs_f flσ_63 (by decide) s47
        refine wp_if (fun c39 => ?_) (fun c39 => ?_)
        · have k41 := e36 c39
          try simp (disch := omega) only [w32_of, w64_of, w8_of, decide_eq_true_eq, decide_eq_false_iff_not, Bool.not_eq_true] at c39
          exact wp_some ⟨hσ_63, frσ_63, (by (try dsimp only) <;> (first | exact s123 | exact s119 | exact s107 | exact s63 | exact s47 | exact s33))⟩
        · have k42 := gz (Bool.eq_false_iff.mpr c39)
          try simp (disch := omega) only [w32_of, w64_of, w8_of] at k42
          have k43 := e37 c39
          try simp (disch := omega) only [w32_of, w64_of, w8_of, decide_eq_true_eq, decide_eq_false_iff_not, Bool.not_eq_true] at c39
          refine wp_wfI hσ_63 b_kR_segments (by (try dsimp only) <;> first | assumption | omega | ((try simp (disch := omega) only [w32_of, w64_of, w8_of]) <;> first | assumption | omega | (split <;> omega) | (refine And.intro ?_ ?_ <;> split <;> omega)) | omega) (fun σ_66 hσ_66 eσ_66 => ?_)
          try simp (disch := omega) only [w32_of, w64_of, w8_of] at eσ_66
          have flσ_66 := FR_sg eσ_66
          have frσ_66 : FR [kR_pieceBits, kR_pieceFrom, kR_pieceTo, kR_chain, kR_chainDen, kR_chainMany, kR_chainNum, kR_chainOpen, kR_chained, kR_corner, kR_corners, kR_edgeDone, kR_edgeFrom, kR_edgeTo, kR_edges, kR_ex, kR_ey, kR_highDen, kR_highNum, kR_highOpen, kR_hotX, kR_hotY, kR_hots, kR_isInner, kR_lowDen, kR_lowNum, kR_lowOpen, kR_meetX, kR_meetY, kR_numberOf, kR_onWay, kR_outArea, kR_outFrom, kR_outMany, kR_outShell, kR_outs, kR_pieces, kR_plan, kR_planMany, kR_pointMany, kR_ringOf, kR_segments, kR_shapeOf, kR_sx, kR_sy, kR_thrown, kR_way, kR_wayMany, kR_xs, kR_ys] σ σ_66 := FR_tr frσ_63 flσ_66 (by decide) (by decide)
          obtain ⟨n1, n2⟩ := gz (by simp_all)
          have s66 : SHs σ_66 := SHs_f flσ_66 (by decide) s63
          have n66 : NRs σ_66 slot_0 := NRs_f flσ_66 (by decide) (NRs_f flσ_63 (by decide) n1)
          have o66 : NRs σ_66 other_0 := NRs_f flσ_66 (by decide) (NRs_f flσ_63 (by decide) n2)
          have z66 : σ_66 kR_segments 0 = 0 := sg_val eσ_66
          have cl66 : CLs σ_66 := XS_0 z66
          have sn66 : SN σ_66 := fun i a b => by omega
          have t66 : σ_66 kR_thrown 0 = 0 := by rw [eσ_66, sg_nc (by decide)]; assumption
          have c44 := ii_kR_segments hσ_66 0
          have c45 := sg_val eσ_66
          refine wp_bd (v_layRings (σ := σ_66) (slot_0 := slot_0) (shape_0 := 0) hσ_66 (by (try dsimp only) <;> first | assumption | omega | ((try simp (disch := omega) only [w32_of, w64_of, w8_of]) <;> first | assumption | omega | (split <;> omega) | (refine And.intro ?_ ?_ <;> split <;> omega)) | omega) (by (try dsimp only) <;> first | assumption | omega | ((try simp (disch := omega) only [w32_of, w64_of, w8_of]) <;> first | assumption | omega | (split <;> omega) | (refine And.intro ?_ ?_ <;> split <;> omega)) | omega) (by (try dsimp only) <;> first | assumption | omega | ((try simp (disch := omega) only [w32_of, w64_of, w8_of]) <;> first | assumption | omega | (split <;> omega) | (refine And.intro ?_ ?_ <;> split <;> omega)) | omega) (by (try dsimp only) <;> first | assumption | omega | ((try simp (disch := omega) only [w32_of, w64_of, w8_of]) <;> first | assumption | omega | (split <;> omega) | (refine And.intro ?_ ?_ <;> split <;> omega)) | omega) (by (try dsimp only) <;> first | assumption | omega | ((try simp (disch := omega) only [w32_of, w64_of, w8_of]) <;> first | assumption | omega | (split <;> omega) | (refine And.intro ?_ ?_ <;> split <;> omega)) | omega) (by (try dsimp only) <;> first | assumption | omega | ((try simp (disch := omega) only [w32_of, w64_of, w8_of]) <;> first | assumption | omega | (split <;> omega) | (refine And.intro ?_ ?_ <;> split <;> omega)) | omega)) ?_
          rintro ⟨x_69, σ_68⟩ - y46
          try dsimp only at y46 ⊢
          obtain ⟨hσ_68, flσ_68, ka1, ka2, ka3⟩ := y46
          have frσ_68 : FR [kR_pieceBits, kR_pieceFrom, kR_pieceTo, kR_chain, kR_chainDen, kR_chainMany, kR_chainNum, kR_chainOpen, kR_chained, kR_corner, kR_corners, kR_edgeDone, kR_edgeFrom, kR_edgeTo, kR_edges, kR_ex, kR_ey, kR_highDen, kR_highNum, kR_highOpen, kR_hotX, kR_hotY, kR_hots, kR_isInner, kR_lowDen, kR_lowNum, kR_lowOpen, kR_meetX, kR_meetY, kR_numberOf, kR_onWay, kR_outArea, kR_outFrom, kR_outMany, kR_outShell, kR_outs, kR_pieces, kR_plan, kR_planMany, kR_pointMany, kR_ringOf, kR_segments, kR_shapeOf, kR_sx, kR_sy, kR_thrown, kR_way, kR_wayMany, kR_xs, kR_ys] σ σ_68 := FR_tr frσ_66 flσ_68 (by decide) (by decide)
          have c47 := ii_kR_segments hσ_68 0
          try simp (disch := omega) only [w32_of, w64_of, w8_of] at ka1
          try simp (disch := omega) only [w32_of, w64_of, w8_of] at ka2
          try simp (disch := omega) only [w32_of, w64_of, w8_of] at ka3
          have s68 : SHs σ_68 := SHs_f flσ_68 (by decide) s66
          have o68 : NRs σ_68 other_0 := NRs_f flσ_68 (by decide) o66
          have t68 : σ_68 kR_thrown 0 = 0 := (FR_at flσ_68 (c := kR_thrown) (by decide) 0).trans t66
          refine wp_bd (P := fun rr_ => II rr_.2 ∧ FR [kR_pieceBits, kR_pieceFrom, kR_pieceTo, kR_chain, kR_chainDen, kR_chainMany, kR_chainNum, kR_chainOpen, kR_chained, kR_corner, kR_corners, kR_edgeDone, kR_edgeFrom, kR_edgeTo, kR_edges, kR_ex, kR_ey, kR_highDen, kR_highNum, kR_highOpen, kR_hotX, kR_hotY, kR_hots, kR_isInner, kR_lowDen, kR_lowNum, kR_lowOpen, kR_meetX, kR_meetY, kR_numberOf, kR_onWay, kR_outArea, kR_outFrom, kR_outMany, kR_outShell, kR_outs, kR_pieces, kR_plan, kR_planMany, kR_pointMany, kR_ringOf, kR_segments, kR_shapeOf, kR_sx, kR_sy, kR_thrown, kR_way, kR_wayMany, kR_xs, kR_ys] σ rr_.2 ∧ ((rr_.1 = true) → CLs rr_.2) ∧ (SN rr_.2) ∧ (SHs rr_.2) ∧ (rr_.2 kR_thrown 0 = 0)) ?_ ?_
          · refine wp_bd (v_layRings (σ := σ_68) (slot_0 := other_0) (shape_0 := 1) hσ_68 (by (try dsimp only) <;> first | assumption | omega | ((try simp (disch := omega) only [w32_of, w64_of, w8_of]) <;> first | assumption | omega | (split <;> omega) | (refine And.intro ?_ ?_ <;> split <;> omega)) | omega) (by (try dsimp only) <;> first | assumption | omega | ((try simp (disch := omega) only [w32_of, w64_of, w8_of]) <;> first | assumption | omega | (split <;> omega) | (refine And.intro ?_ ?_ <;> split <;> omega)) | omega) (by (try dsimp only) <;> first | assumption | omega | ((try simp (disch := omega) only [w32_of, w64_of, w8_of]) <;> first | assumption | omega | (split <;> omega) | (refine And.intro ?_ ?_ <;> split <;> omega)) | omega) (by (try dsimp only) <;> first | assumption | omega | ((try simp (disch := omega) only [w32_of, w64_of, w8_of]) <;> first | assumption | omega | (split <;> omega) | (refine And.intro ?_ ?_ <;> split <;> omega)) | omega) (by (try dsimp only) <;> first | assumption | omega | ((try simp (disch := omega) only [w32_of, w64_of, w8_of]) <;> first | assumption | omega | (split <;> omega) | (refine And.intro ?_ ?_ <;> split <;> omega)) | omega) (by (try dsimp only) <;> first | assumption | omega | ((try simp (disch := omega) only [w32_of, w64_of, w8_of]) <;> first | assumption | omega | (split <;> omega) | (refine And.intro ?_ ?_ <;> split <;> omega)) | omega)) ?_
            rintro ⟨x_72, σ_71⟩ - y48
            try dsimp only at y48 ⊢
            obtain ⟨hσ_71, flσ_71, lr1, lr2, lr3⟩ := y48
            have frσ_71 : FR [kR_pieceBits, kR_pieceFrom, kR_pieceTo, kR_chain, kR_chainDen, kR_chainMany, kR_chainNum, kR_chainOpen, kR_chained, kR_corner, kR_corners, kR_edgeDone, kR_edgeFrom, kR_edgeTo, kR_edges, kR_ex, kR_ey, kR_highDen, kR_highNum, kR_highOpen, kR_hotX, kR_hotY, kR_hots, kR_isInner, kR_lowDen, kR_lowNum, kR_lowOpen, kR_meetX, kR_meetY, kR_numberOf, kR_onWay, kR_outArea, kR_outFrom, kR_outMany, kR_outShell, kR_outs, kR_pieces, kR_plan, kR_planMany, kR_pointMany, kR_ringOf, kR_segments, kR_shapeOf, kR_sx, kR_sy, kR_thrown, kR_way, kR_wayMany, kR_xs, kR_ys] σ σ_71 := FR_tr frσ_68 flσ_71 (by decide) (by decide)
            have c49 := ii_kR_segments hσ_71 0
            try simp (disch := omega) only [w32_of, w64_of, w8_of] at lr1
            try simp (disch := omega) only [w32_of, w64_of, w8_of] at lr2
            try simp (disch := omega) only [w32_of, w64_of, w8_of] at lr3
            refine wp_if (fun c50 => ?_) (fun c50 => ?_)
            · have k51 := lr3 c50
              try simp (disch := omega) only [w32_of, w64_of, w8_of] at k51
              try simp (disch := omega) only [w32_of, w64_of, w8_of, decide_eq_true_eq, decide_eq_false_iff_not, Bool.not_eq_true] at c50
              refine wp_if (fun c52 => ?_) (fun c52 => ?_)
              · have k53 := ka3 c52
                try simp (disch := omega) only [w32_of, w64_of, w8_of] at k53
                try simp (disch := omega) only [w32_of, w64_of, w8_of, decide_eq_true_eq, decide_eq_false_iff_not, Bool.not_eq_true] at c52
                have c54 := ii_kR_thrown hσ_71 0
                have c55 := FR_at flσ_71 (c := kR_thrown) (by decide) 0
                have c56 := ii_kR_thrown hσ_68 0
                have c57 := FR_at flσ_68 (c := kR_thrown) (by decide) 0
                have c58 := ii_kR_thrown hσ_66 0
                have c59 := FR_at flσ_66 (c := kR_thrown) (by decide) 0
                have c60 := ii_kR_thrown hσ_63 0
                exact wp_some ⟨hσ_71, frσ_71, (by (try dsimp only) <;> (first | (intro h; exact absurd h (by decide)) | (intro _; exact lr3 (by assumption) (ka3 (by assumption) cl66)))), (by (try dsimp only) <;> (exact lr2)), (by (try dsimp only) <;> (exact SHs_f flσ_71 (by decide) s68)), (by (try dsimp only) <;> (exact (FR_at flσ_71 (c := kR_thrown) (by decide) 0).trans t68))⟩
              · try simp (disch := omega) only [w32_of, w64_of, w8_of, decide_eq_true_eq, decide_eq_false_iff_not, Bool.not_eq_true] at c52
                have c62 := ii_kR_thrown hσ_71 0
                have c63 := FR_at flσ_71 (c := kR_thrown) (by decide) 0
                have c64 := ii_kR_thrown hσ_68 0
                have c65 := FR_at flσ_68 (c := kR_thrown) (by decide) 0
                have c66 := ii_kR_thrown hσ_66 0
                have c67 := FR_at flσ_66 (c := kR_thrown) (by decide) 0
                have c68 := ii_kR_thrown hσ_63 0
                exact wp_some ⟨hσ_71, frσ_71, (fun q => (by cases q)), (by (try dsimp only) <;> (exact lr2)), (by (try dsimp only) <;> (exact SHs_f flσ_71 (by decide) s68)), (by (try dsimp only) <;> (exact (FR_at flσ_71 (c := kR_thrown) (by decide) 0).trans t68))⟩
            · try simp (disch := omega) only [w32_of, w64_of, w8_of, decide_eq_true_eq, decide_eq_false_iff_not, Bool.not_eq_true] at c50
              have c70 := ii_kR_thrown hσ_71 0
              have c71 := FR_at flσ_71 (c := kR_thrown) (by decide) 0
              have c72 := ii_kR_thrown hσ_68 0
              have c73 := FR_at flσ_68 (c := kR_thrown) (by decide) 0
              have c74 := ii_kR_thrown hσ_66 0
              have c75 := FR_at flσ_66 (c := kR_thrown) (by decide) 0
              have c76 := ii_kR_thrown hσ_63 0
              exact wp_some ⟨hσ_71, frσ_71, (fun q => (by cases q)), (by (try dsimp only) <;> (exact lr2)), (by (try dsimp only) <;> (exact SHs_f flσ_71 (by decide) s68)), (by (try dsimp only) <;> (exact (FR_at flσ_71 (c := kR_thrown) (by decide) 0).trans t68))⟩
          rintro ⟨x_78, σ_79⟩ _ y77
          try dsimp only at y77 ⊢
          obtain ⟨hσ_79, frσ_79, gC, gN, gS, gT⟩ := y77
          have c80 := ii_kR_thrown hσ_79 0
          refine wp_fails hσ_79 (by (try dsimp only) <;> first | assumption | omega | ((try simp (disch := omega) only [w32_of, w64_of, w8_of]) <;> first | assumption | omega | (split <;> omega) | (refine And.intro ?_ ?_ <;> split <;> omega)) | omega) (by decide) (fun σ_107 hσ_107 flσ_107 e78 e79 => ?_)
          try dsimp only
          have frσ_107 : FR [kR_pieceBits, kR_pieceFrom, kR_pieceTo, kR_chain, kR_chainDen, kR_chainMany, kR_chainNum, kR_chainOpen, kR_chained, kR_corner, kR_corners, kR_edgeDone, kR_edgeFrom, kR_edgeTo, kR_edges, kR_ex, kR_ey, kR_highDen, kR_highNum, kR_highOpen, kR_hotX, kR_hotY, kR_hots, kR_isInner, kR_lowDen, kR_lowNum, kR_lowOpen, kR_meetX, kR_meetY, kR_numberOf, kR_onWay, kR_outArea, kR_outFrom, kR_outMany, kR_outShell, kR_outs, kR_pieces, kR_plan, kR_planMany, kR_pointMany, kR_ringOf, kR_segments, kR_shapeOf, kR_sx, kR_sy, kR_thrown, kR_way, kR_wayMany, kR_xs, kR_ys] σ σ_107 := FR_tr frσ_79 flσ_107 (by decide) (by decide)
          have s107 : SHs σ_107 := SHs_f flσ_107 (by decide) gS
          refine wp_if (fun c81 => ?_) (fun c81 => ?_)
          · have k82 := e78 c81
            try simp (disch := omega) only [w32_of, w64_of, w8_of, decide_eq_true_eq, decide_eq_false_iff_not, Bool.not_eq_true] at c81
            exact wp_some ⟨hσ_107, frσ_107, (by (try dsimp only) <;> (first | exact s123 | exact s119 | exact s107 | exact s63 | exact s47 | exact s33))⟩
          · have k83 := e79 c81
            try simp (disch := omega) only [w32_of, w64_of, w8_of, decide_eq_true_eq, decide_eq_false_iff_not, Bool.not_eq_true] at c81
            have t107 : σ_107 kR_thrown 0 = 0 := by assumption
            have cl107 : CLs σ_107 := CLs_f flσ_107 (by decide) (gC (by simp_all))
            have sn107 : SN σ_107 := SN_f flσ_107 (by decide) gN
            refine wp_bd (P := fun rr_ => II rr_.2 ∧ FR [kR_pieceBits, kR_pieceFrom, kR_pieceTo, kR_chain, kR_chainDen, kR_chainMany, kR_chainNum, kR_chainOpen, kR_chained, kR_corner, kR_corners, kR_edgeDone, kR_edgeFrom, kR_edgeTo, kR_edges, kR_ex, kR_ey, kR_highDen, kR_highNum, kR_highOpen, kR_hotX, kR_hotY, kR_hots, kR_isInner, kR_lowDen, kR_lowNum, kR_lowOpen, kR_meetX, kR_meetY, kR_numberOf, kR_onWay, kR_outArea, kR_outFrom, kR_outMany, kR_outShell, kR_outs, kR_pieces, kR_plan, kR_planMany, kR_pointMany, kR_ringOf, kR_segments, kR_shapeOf, kR_sx, kR_sy, kR_thrown, kR_way, kR_wayMany, kR_xs, kR_ys] σ rr_.2 ∧ ((rr_.1 = false) → SHn rr_.2) ∧ (SHs rr_.2) ∧ (rr_.2 kR_thrown 0 = 0)) ?_ ?_
            · refine wp_bd (s_R_laysOver (σ := σ_107) (what_0 := what_0) hσ_107 (by (try dsimp only) <;> first | assumption | omega | ((try simp (disch := omega) only [w32_of, w64_of, w8_of]) <;> first | assumption | omega | (split <;> omega) | (refine And.intro ?_ ?_ <;> split <;> omega)) | omega) (by (try dsimp only) <;> first | assumption | omega | ((try simp (disch := omega) only [w32_of, w64_of, w8_of]) <;> first | assumption | omega | (split <;> omega) | (refine And.intro ?_ ?_ <;> split <;> omega)) | omega)) ?_
              rintro ⟨x_112, σ_111⟩ - y84
              try dsimp only at y84 ⊢
              obtain ⟨hσ_111, flσ_111, ngσ_111, lo⟩ := y84
              have frσ_111 : FR [kR_pieceBits, kR_pieceFrom, kR_pieceTo, kR_chain, kR_chainDen, kR_chainMany, kR_chainNum, kR_chainOpen, kR_chained, kR_corner, kR_corners, kR_edgeDone, kR_edgeFrom, kR_edgeTo, kR_edges, kR_ex, kR_ey, kR_highDen, kR_highNum, kR_highOpen, kR_hotX, kR_hotY, kR_hots, kR_isInner, kR_lowDen, kR_lowNum, kR_lowOpen, kR_meetX, kR_meetY, kR_numberOf, kR_onWay, kR_outArea, kR_outFrom, kR_outMany, kR_outShell, kR_outs, kR_pieces, kR_plan, kR_planMany, kR_pointMany, kR_ringOf, kR_segments, kR_shapeOf, kR_sx, kR_sy, kR_thrown, kR_way, kR_wayMany, kR_xs, kR_ys] σ σ_111 := FR_tr frσ_107 flσ_111 (by decide) (by decide)
              try simp (disch := omega) only [w32_of, w64_of, w8_of] at lo
              refine wp_if (fun c85 => ?_) (fun c85 => ?_)
              · have k86 := lo c85
                try simp (disch := omega) only [w32_of, w64_of, w8_of] at k86
                try simp (disch := omega) only [w32_of, w64_of, w8_of, decide_eq_true_eq, decide_eq_false_iff_not, Bool.not_eq_true] at c85
                have c87 := ii_kR_thrown hσ_111 0
                have c88 := FR_at flσ_111 (c := kR_thrown) (by decide) 0
                have c89 := ii_kR_thrown hσ_107 0
                exact wp_some ⟨hσ_111, frσ_111, (by (try dsimp only) <;> (first | (intro h; exact absurd h (by decide)) | (intro _; exact lo (by assumption)))), (by (try dsimp only) <;> (exact NF_SHs hσ_107 ngσ_111 s107)), (by (try dsimp only) <;> (exact (FR_at flσ_111 (c := kR_thrown) (by decide) 0).trans t107))⟩
              · try simp (disch := omega) only [w32_of, w64_of, w8_of, decide_eq_true_eq, decide_eq_false_iff_not, Bool.not_eq_true] at c85
                have c91 := ii_kR_thrown hσ_111 0
                have c92 := FR_at flσ_111 (c := kR_thrown) (by decide) 0
                have c93 := ii_kR_thrown hσ_107 0
                exact wp_some ⟨hσ_111, frσ_111, (fun q => (by cases q)), (by (try dsimp only) <;> (exact NF_SHs hσ_107 ngσ_111 s107)), (by (try dsimp only) <;> (exact (FR_at flσ_111 (c := kR_thrown) (by decide) 0).trans t107))⟩
            rintro ⟨x_116, σ_117⟩ _ y94
            try dsimp only at y94 ⊢
            obtain ⟨hσ_117, frσ_117, gH, gS2, gT2⟩ := y94
            have c97 := ii_kR_thrown hσ_117 0
            refine wp_fails hσ_117 (by (try dsimp only) <;> first | assumption | omega | ((try simp (disch := omega) only [w32_of, w64_of, w8_of]) <;> first | assumption | omega | (split <;> omega) | (refine And.intro ?_ ?_ <;> split <;> omega)) | omega) (by decide) (fun σ_119 hσ_119 flσ_119 e95 e96 => ?_)
            try dsimp only
            have frσ_119 : FR [kR_pieceBits, kR_pieceFrom, kR_pieceTo, kR_chain, kR_chainDen, kR_chainMany, kR_chainNum, kR_chainOpen, kR_chained, kR_corner, kR_corners, kR_edgeDone, kR_edgeFrom, kR_edgeTo, kR_edges, kR_ex, kR_ey, kR_highDen, kR_highNum, kR_highOpen, kR_hotX, kR_hotY, kR_hots, kR_isInner, kR_lowDen, kR_lowNum, kR_lowOpen, kR_meetX, kR_meetY, kR_numberOf, kR_onWay, kR_outArea, kR_outFrom, kR_outMany, kR_outShell, kR_outs, kR_pieces, kR_plan, kR_planMany, kR_pointMany, kR_ringOf, kR_segments, kR_shapeOf, kR_sx, kR_sy, kR_thrown, kR_way, kR_wayMany, kR_xs, kR_ys] σ σ_119 := FR_tr frσ_117 flσ_119 (by decide) (by decide)
            have s119 : SHs σ_119 := SHs_f flσ_119 (by decide) gS2
            refine wp_if (fun c98 => ?_) (fun c98 => ?_)
            · have k100 := e95 c98
              try simp (disch := omega) only [w32_of, w64_of, w8_of, decide_eq_true_eq, decide_eq_false_iff_not, Bool.not_eq_true] at c98
              exact wp_some ⟨hσ_119, frσ_119, (by (try dsimp only) <;> (first | exact s123 | exact s119 | exact s107 | exact s63 | exact s47 | exact s33))⟩
            · have k101 := gH (Bool.eq_false_iff.mpr c98)
              try simp (disch := omega) only [w32_of, w64_of, w8_of] at k101
              have k102 := e96 c98
              try simp (disch := omega) only [w32_of, w64_of, w8_of, decide_eq_true_eq, decide_eq_false_iff_not, Bool.not_eq_true] at c98
              have h119 : SHn σ_119 := SHn_f flσ_119 (by decide) (gH (by simp_all))
              refine wp_bd (v_move (σ := σ_119) (from_0 := 32) (to_0 := to_0) hσ_119 (by (try dsimp only) <;> first | assumption | omega | ((try simp (disch := omega) only [w32_of, w64_of, w8_of]) <;> first | assumption | omega | (split <;> omega) | (refine And.intro ?_ ?_ <;> split <;> omega)) | omega) (by (try dsimp only) <;> first | assumption | omega | ((try simp (disch := omega) only [w32_of, w64_of, w8_of]) <;> first | assumption | omega | (split <;> omega) | (refine And.intro ?_ ?_ <;> split <;> omega)) | omega) (by (try dsimp only) <;> first | assumption | omega | ((try simp (disch := omega) only [w32_of, w64_of, w8_of]) <;> first | assumption | omega | (split <;> omega) | (refine And.intro ?_ ?_ <;> split <;> omega)) | omega)) ?_
              rintro σ_123 - ⟨hσ_123, flσ_123, gm⟩
              have frσ_123 : FR [kR_pieceBits, kR_pieceFrom, kR_pieceTo, kR_chain, kR_chainDen, kR_chainMany, kR_chainNum, kR_chainOpen, kR_chained, kR_corner, kR_corners, kR_edgeDone, kR_edgeFrom, kR_edgeTo, kR_edges, kR_ex, kR_ey, kR_highDen, kR_highNum, kR_highOpen, kR_hotX, kR_hotY, kR_hots, kR_isInner, kR_lowDen, kR_lowNum, kR_lowOpen, kR_meetX, kR_meetY, kR_numberOf, kR_onWay, kR_outArea, kR_outFrom, kR_outMany, kR_outShell, kR_outs, kR_pieces, kR_plan, kR_planMany, kR_pointMany, kR_ringOf, kR_segments, kR_shapeOf, kR_sx, kR_sy, kR_thrown, kR_way, kR_wayMany, kR_xs, kR_ys] σ σ_123 := FR_tr frσ_119 flσ_123 (by decide) (by decide)
              try simp (disch := omega) only [w32_of, w64_of, w8_of] at gm
              have s123 : SHs σ_123 := MV_SHs hσ_119 gm (SHn_SH h119) s119
              have c103 := w32_rng ((2048 * to_0) + 1)
              refine wp_rdI (by (try dsimp only) <;> first | assumption | omega | ((try simp (disch := omega) only [w32_of, w64_of, w8_of]) <;> first | assumption | omega | (split <;> omega) | (refine And.intro ?_ ?_ <;> split <;> omega)) | omega) (by (try dsimp only) <;> first | assumption | omega | ((try simp (disch := omega) only [w32_of, w64_of, w8_of]) <;> first | assumption | omega | (split <;> omega) | (refine And.intro ?_ ?_ <;> split <;> omega)) | omega) (fun x_124 e_x_124 => ?_)
              try simp (disch := omega) only [w32_of, w64_of, w8_of] at e_x_124
              exact wp_some ⟨hσ_123, frσ_123, (by (try dsimp only) <;> (first | exact s123 | exact s119 | exact s107 | exact s63 | exact s47 | exact s33))⟩
      · have k104 := fun q => c22 (g16.mpr q)
        try simp (disch := omega) only [w32_of, w64_of, w8_of] at k104
        try simp (disch := omega) only [w32_of, w64_of, w8_of, decide_eq_true_eq, decide_eq_false_iff_not, Bool.not_eq_true] at c22
        refine wp_somek ?_
        try dsimp only
        have c107 := ii_kR_thrown hσ_33 0
        refine wp_fails hσ_33 (by (try dsimp only) <;> first | assumption | omega | ((try simp (disch := omega) only [w32_of, w64_of, w8_of]) <;> first | assumption | omega | (split <;> omega) | (refine And.intro ?_ ?_ <;> split <;> omega)) | omega) (by decide) (fun σ_47 hσ_47 flσ_47 e105 e106 => ?_)
        try dsimp only
        have frσ_47 : FR [kR_pieceBits, kR_pieceFrom, kR_pieceTo, kR_chain, kR_chainDen, kR_chainMany, kR_chainNum, kR_chainOpen, kR_chained, kR_corner, kR_corners, kR_edgeDone, kR_edgeFrom, kR_edgeTo, kR_edges, kR_ex, kR_ey, kR_highDen, kR_highNum, kR_highOpen, kR_hotX, kR_hotY, kR_hots, kR_isInner, kR_lowDen, kR_lowNum, kR_lowOpen, kR_meetX, kR_meetY, kR_numberOf, kR_onWay, kR_outArea, kR_outFrom, kR_outMany, kR_outShell, kR_outs, kR_pieces, kR_plan, kR_planMany, kR_pointMany, kR_ringOf, kR_segments, kR_shapeOf, kR_sx, kR_sy, kR_thrown, kR_way, kR_wayMany, kR_xs, kR_ys] σ σ_47 := FR_tr frσ_33 flσ_47 (by decide) (by decide)
        have k108 := e105 rfl
        have s47 : SHs σ_47 := SHs_f flσ_47 (by decide) s33
        refine wp_tt ?_
        exact wp_some ⟨hσ_47, frσ_47, (by (try dsimp only) <;> (first | exact s123 | exact s119 | exact s107 | exact s63 | exact s47 | exact s33))⟩
    · have k109 := fun q => c14 (g8.mpr q)
      try simp (disch := omega) only [w32_of, w64_of, w8_of] at k109
      try simp (disch := omega) only [w32_of, w64_of, w8_of, decide_eq_true_eq, decide_eq_false_iff_not, Bool.not_eq_true] at c14
      refine wp_somek ?_
      try dsimp only
      have c112 := ii_kR_thrown hσ_33 0
      refine wp_fails hσ_33 (by (try dsimp only) <;> first | assumption | omega | ((try simp (disch := omega) only [w32_of, w64_of, w8_of]) <;> first | assumption | omega | (split <;> omega) | (refine And.intro ?_ ?_ <;> split <;> omega)) | omega) (by decide) (fun σ_47 hσ_47 flσ_47 e110 e111 => ?_)
      try dsimp only
      have frσ_47 : FR [kR_pieceBits, kR_pieceFrom, kR_pieceTo, kR_chain, kR_chainDen, kR_chainMany, kR_chainNum, kR_chainOpen, kR_chained, kR_corner, kR_corners, kR_edgeDone, kR_edgeFrom, kR_edgeTo, kR_edges, kR_ex, kR_ey, kR_highDen, kR_highNum, kR_highOpen, kR_hotX, kR_hotY, kR_hots, kR_isInner, kR_lowDen, kR_lowNum, kR_lowOpen, kR_meetX, kR_meetY, kR_numberOf, kR_onWay, kR_outArea, kR_outFrom, kR_outMany, kR_outShell, kR_outs, kR_pieces, kR_plan, kR_planMany, kR_pointMany, kR_ringOf, kR_segments, kR_shapeOf, kR_sx, kR_sy, kR_thrown, kR_way, kR_wayMany, kR_xs, kR_ys] σ σ_47 := FR_tr frσ_33 flσ_47 (by decide) (by decide)
      have k113 := e110 rfl
      have s47 : SHs σ_47 := SHs_f flσ_47 (by decide) s33
      refine wp_tt ?_
      exact wp_some ⟨hσ_47, frσ_47, (by (try dsimp only) <;> (first | exact s123 | exact s119 | exact s107 | exact s63 | exact s47 | exact s33))⟩
