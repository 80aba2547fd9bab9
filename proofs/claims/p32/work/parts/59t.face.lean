theorem s_Q_again {σ : SG} (hσ : II σ) : wp_ (fQ_again σ) (fun zz_ => II zz_.2 ∧ FC [kQ_tape, kQ_tapeSize] [] σ zz_.2) := by
  unfold fQ_again
  have hts := ii_kO_size hσ 0
  have c1 := ii_kO_size hσ 0
  have c2 := q_mni_bd (σ kO_size 0) 65536
  try simp (disch := omega) only [w32_of, w64_of, w8_of] at c2
  refine wp_wfI hσ b_kQ_tapeSize (by (try dsimp only) <;> first | assumption | omega | ((try simp (disch := omega) only [w32_of, w64_of, w8_of]) <;> first | assumption | omega | (split <;> omega) | (refine And.intro ?_ ?_ <;> split <;> omega)) | omega) (fun σ_1 hσ_1 eσ_1 => ?_)
  try simp (disch := omega) only [w32_of, w64_of, w8_of] at eσ_1
  have flσ_1 := FC_sg eσ_1 (by first | decide | (rcases hE with rfl | rfl | rfl <;> decide))
  have frσ_1 : FC [kQ_tape, kQ_tapeSize] [] σ σ_1 := FC_le flσ_1 (by first | decide | (rcases hE with rfl | rfl | rfl <;> decide)) (by simp)
  have c3 := ii_kQ_tapeSize hσ_1 0
  have c4 := sg_val eσ_1
  have c5 := w32_rng (σ_1 kQ_tapeSize 0)
  refine wp_cpI hσ_1 (by decide +kernel) (by (try dsimp only) <;> first | assumption | omega | ((try simp (disch := omega) only [w32_of, w64_of, w8_of]) <;> first | assumption | omega | (split <;> omega) | (refine And.intro ?_ ?_ <;> split <;> omega)) | omega) (fun σ_2 hσ_2 oσ_2 eσ_2 => ?_)
  have flσ_2 := FC_fix oσ_2 (by decide)
  have frσ_2 : FC [kQ_tape, kQ_tapeSize] [] σ σ_2 := FC_tr frσ_1 flσ_2 (by first | decide | (rcases hE with rfl | rfl | rfl <;> decide)) (by first | decide | (rcases hE with rfl | rfl | rfl <;> decide)) (by simp) (by simp)
  exact wp_some ⟨hσ_2, frσ_2⟩
theorem s_Q_kindOrFault {σ : SG} {shape_0 : Nat} {good_0 : Bool} {code_0 : Int} {at_0 : Int} (hσ : II σ) (hs_shape_0 : isS shape_0) (qcode_0 : 0 ≤ code_0 ∧ code_0 ≤ 9) (qat_0 : 0 ≤ at_0 ∧ at_0 ≤ 65536) (w0 : (good_0 = true) → SHa σ shape_0) (w1 : 0 ≤ code_0 ∧ code_0 ≤ 9) (w2 : 0 ≤ at_0 ∧ at_0 ≤ 65536) : wp_ (fQ_kindOrFault σ shape_0 good_0 code_0 at_0) (fun zz_ => II zz_.2 ∧ FC [kQ_wrong, kQ_wrongPlace] [shape_0] σ zz_.2 ∧ (SHa zz_.2 shape_0) ∧ (∀ e : Nat, zz_.1 = .inr e → e = 2)) := by
  unfold fQ_kindOrFault
  refine wp_wfI hσ b_kQ_wrong (by (try dsimp only) <;> first | assumption | omega | ((try simp (disch := omega) only [w32_of, w64_of, w8_of]) <;> first | assumption | omega | (split <;> omega) | (refine And.intro ?_ ?_ <;> split <;> omega)) | omega) (fun σ_1 hσ_1 eσ_1 => ?_)
  try simp (disch := omega) only [w32_of, w64_of, w8_of] at eσ_1
  have flσ_1 := FC_sg eσ_1 (by first | decide | (rcases hE with rfl | rfl | rfl <;> decide))
  have frσ_1 : FC [kQ_wrong, kQ_wrongPlace] [shape_0] σ σ_1 := FC_le flσ_1 (by first | decide | (rcases hE with rfl | rfl | rfl <;> decide)) (by simp)
  refine wp_wfI hσ_1 b_kQ_wrongPlace (by (try dsimp only) <;> first | assumption | omega | ((try simp (disch := omega) only [w32_of, w64_of, w8_of]) <;> first | assumption | omega | (split <;> omega) | (refine And.intro ?_ ?_ <;> split <;> omega)) | omega) (fun σ_2 hσ_2 eσ_2 => ?_)
  try simp (disch := omega) only [w32_of, w64_of, w8_of] at eσ_2
  have flσ_2 := FC_sg eσ_2 (by first | decide | (rcases hE with rfl | rfl | rfl <;> decide))
  have frσ_2 : FC [kQ_wrong, kQ_wrongPlace] [shape_0] σ σ_2 := FC_tr frσ_1 flσ_2 (by first | decide | (rcases hE with rfl | rfl | rfl <;> decide)) (by first | decide | (rcases hE with rfl | rfl | rfl <;> decide)) (by simp) (by simp)
  refine wp_if (fun c1 => ?_) (fun c1 => ?_)
  · try simp (disch := omega) only [w32_of, w64_of, w8_of, decide_eq_true_eq, decide_eq_false_iff_not, Bool.not_eq_true] at c1
    refine wp_bd (s_A_kind (σ := σ_2) (this_0 := shape_0) hσ_2 (by first | assumption | decide | omega)) ?_
    rintro x_5 - g2
    have c3 := iiA_plans (s := shape_0) hσ_2 (by first | assumption | decide | omega) 0
    have c4 := congrFun (FC_plans (t := shape_0) flσ_2 (by first | assumption | decide | omega) (NS_0 _)) 0
    have c5 := iiA_plans (s := shape_0) hσ_1 (by first | assumption | decide | omega) 0
    have c6 := congrFun (FC_plans (t := shape_0) flσ_1 (by first | assumption | decide | omega) (NS_0 _)) 0
    have c7 := iiA_plans (s := shape_0) hσ (by first | assumption | decide | omega) 0
    have c8 := congrFun (FC_plan (t := shape_0) flσ_2 (by first | assumption | decide | omega) (NS_0 _)) 0
    have c9 := congrFun (FC_plan (t := shape_0) flσ_1 (by first | assumption | decide | omega) (NS_0 _)) 0
    try simp (disch := omega) only [w32_of, w64_of, w8_of] at g2
    exact wp_some ⟨hσ_2, frσ_2, (by (try dsimp only) <;> (first | exact SHa_z hc1 hc2 | exact SHa_f flσ_2 hs_shape_0 (NS_0 _) (SHa_f flσ_1 hs_shape_0 (NS_0 _) (w0 (by assumption))))), (by (try dsimp only) <;> (intro e9 q9; first | (injection q9; done) | (injection q9 with q8; omega)))⟩
  · try simp (disch := omega) only [w32_of, w64_of, w8_of, decide_eq_true_eq, decide_eq_false_iff_not, Bool.not_eq_true] at c1
    refine wp_bd (v_clearA (σ := σ_2) (this_0 := shape_0) hσ_2 (by first | assumption | decide | omega)) ?_
    rintro σ_7 - ⟨hσ_7, flσ_7, hc1, hc2⟩
    have frσ_7 : FC [kQ_wrong, kQ_wrongPlace] [shape_0] σ σ_7 := FC_tr frσ_2 flσ_7 (by first | decide | (rcases hE with rfl | rfl | rfl <;> decide)) (by first | decide | (rcases hE with rfl | rfl | rfl <;> decide)) (by simp) (by simp)
    have c10 := iiA_plans (s := shape_0) hσ_7 (by first | assumption | decide | omega) 0
    try simp (disch := omega) only [w32_of, w64_of, w8_of] at hc1
    have c11 := iiA_points (s := shape_0) hσ_7 (by first | assumption | decide | omega) 0
    try simp (disch := omega) only [w32_of, w64_of, w8_of] at hc2
    exact wp_some ⟨hσ_7, frσ_7, (by (try dsimp only) <;> (first | exact SHa_z hc1 hc2 | exact SHa_f flσ_2 hs_shape_0 (NS_0 _) (SHa_f flσ_1 hs_shape_0 (NS_0 _) (w0 (by assumption))))), (by (try dsimp only) <;> (intro e9 q9; first | (injection q9; done) | (injection q9 with q8; omega)))⟩
theorem s_Q_readWords {σ : SG} {slot_0 : Int} (hσ : II σ) (qslot_0 : (-2147483648) ≤ slot_0 ∧ slot_0 ≤ 2147483647) (w0 : SHA σ) : wp_ (fQ_readWords σ slot_0) (fun zz_ => II zz_.2 ∧ FC [kQ_tapeSize, kQ_wrong, kQ_wrongPlace, kW_at, kW_collections, kW_depth, kW_length, kW_levelCounter, kW_levelKind, kW_number, kW_place, kW_shape, kW_wrong] allS σ zz_.2 ∧ (SHA zz_.2) ∧ (∀ e : Nat, zz_.1 = .inr e → e = 0 ∨ e = 2)) := by
  unfold fQ_readWords
  refine wp_wfI hσ b_kQ_tapeSize (by (try dsimp only) <;> first | assumption | omega | ((try simp (disch := omega) only [w32_of, w64_of, w8_of]) <;> first | assumption | omega | (split <;> omega) | (refine And.intro ?_ ?_ <;> split <;> omega)) | omega) (fun σ_1 hσ_1 eσ_1 => ?_)
  try simp (disch := omega) only [w32_of, w64_of, w8_of] at eσ_1
  have flσ_1 := FC_sg eσ_1 (by first | decide | (rcases hE with rfl | rfl | rfl <;> decide))
  have frσ_1 : FC [kQ_tapeSize, kQ_wrong, kQ_wrongPlace, kW_at, kW_collections, kW_depth, kW_length, kW_levelCounter, kW_levelKind, kW_number, kW_place, kW_shape, kW_wrong] allS σ σ_1 := FC_le flσ_1 (by first | decide | (rcases hE with rfl | rfl | rfl <;> decide)) (by first | exact allS_1 (by first | assumption | decide) | exact allS_h | exact allS_0)
  refine wp_bt (v_slotNumbered (σ := σ_1) (slot_0 := slot_0) hσ_1 (by (try dsimp only) <;> first | assumption | omega | ((try simp (disch := omega) only [w32_of, w64_of, w8_of]) <;> first | assumption | omega | (split <;> omega) | (refine And.intro ?_ ?_ <;> split <;> omega)) | omega)) ?_ ?_
  · rintro x_4 σ_3 y3
    try dsimp only at y3 ⊢
    obtain ⟨g1, g2, hσ_3, flσ_3r⟩ := y3
    have flσ_3 := FC_of flσ_3r (by decide)
    have frσ_3 : FC [kQ_tapeSize, kQ_wrong, kQ_wrongPlace, kW_at, kW_collections, kW_depth, kW_length, kW_levelCounter, kW_levelKind, kW_number, kW_place, kW_shape, kW_wrong] allS σ σ_3 := FC_tr frσ_1 flσ_3 (by first | decide | (rcases hE with rfl | rfl | rfl <;> decide)) (by first | decide | (rcases hE with rfl | rfl | rfl <;> decide)) (by first | exact allS_1 (by first | assumption | decide) | exact allS_h | exact allS_0) (by first | exact allS_1 (by first | assumption | decide) | exact allS_h | exact allS_0)
    have g4 := g1 _ rfl
    obtain ⟨g5, g6⟩ := g4
    try simp (disch := omega) only [w32_of, w64_of, w8_of] at g5
    try simp (disch := omega) only [w32_of, w64_of, w8_of] at g6
    refine wp_ck (by first | assumption | decide | omega) ?_
    have c7 := ii_kQ_tapeSize hσ 0
    refine wp_bd (s_W_readInto (σ := σ_3) (into_0 := x_4) (bytes_0 := (σ kQ_tapeSize 0)) hσ_3 (by first | assumption | decide | omega) (by (try dsimp only) <;> first | assumption | omega | ((try simp (disch := omega) only [w32_of, w64_of, w8_of]) <;> first | assumption | omega | (split <;> omega) | (refine And.intro ?_ ?_ <;> split <;> omega)) | omega)) ?_
    rintro ⟨x_10, σ_9⟩ - y8
    try dsimp only at y8 ⊢
    obtain ⟨hσ_9, flσ_9, hri⟩ := y8
    have frσ_9 : FC [kQ_tapeSize, kQ_wrong, kQ_wrongPlace, kW_at, kW_collections, kW_depth, kW_length, kW_levelCounter, kW_levelKind, kW_number, kW_place, kW_shape, kW_wrong] allS σ σ_9 := FC_tr frσ_3 flσ_9 (by first | decide | (rcases hE with rfl | rfl | rfl <;> decide)) (by first | decide | (rcases hE with rfl | rfl | rfl <;> decide)) (by first | exact allS_1 (by first | assumption | decide) | exact allS_h | exact allS_0) (by first | exact allS_1 (by first | assumption | decide) | exact allS_h | exact allS_0)
    try simp (disch := omega) only [w32_of, w64_of, w8_of] at hri
    have c9 := ii_kW_wrong hσ_9 0
    have c10 := ii_kW_place hσ_9 0
    refine wp_bt (s_Q_kindOrFault (σ := σ_9) (shape_0 := x_4) (good_0 := x_10) (code_0 := (σ_9 kW_wrong 0)) (at_0 := (σ_9 kW_place 0)) hσ_9 (by first | assumption | decide | omega) (by (try dsimp only) <;> first | assumption | omega | ((try simp (disch := omega) only [w32_of, w64_of, w8_of]) <;> first | assumption | omega | (split <;> omega) | (refine And.intro ?_ ?_ <;> split <;> omega)) | omega) (by (try dsimp only) <;> first | assumption | omega | ((try simp (disch := omega) only [w32_of, w64_of, w8_of]) <;> first | assumption | omega | (split <;> omega) | (refine And.intro ?_ ?_ <;> split <;> omega)) | omega) (by exact hri) (by (try dsimp only) <;> first | assumption | omega | ((try simp (disch := omega) only [w32_of, w64_of, w8_of]) <;> first | assumption | omega | (split <;> omega) | (refine And.intro ?_ ?_ <;> split <;> omega)) | omega) (by (try dsimp only) <;> first | assumption | omega | ((try simp (disch := omega) only [w32_of, w64_of, w8_of]) <;> first | assumption | omega | (split <;> omega) | (refine And.intro ?_ ?_ <;> split <;> omega)) | omega)) ?_ ?_
    · rintro x_13 σ_12 y13
      try dsimp only at y13 ⊢
      obtain ⟨hσ_12, flσ_12, g11, g12⟩ := y13
      have frσ_12 : FC [kQ_tapeSize, kQ_wrong, kQ_wrongPlace, kW_at, kW_collections, kW_depth, kW_length, kW_levelCounter, kW_levelKind, kW_number, kW_place, kW_shape, kW_wrong] allS σ σ_12 := FC_tr frσ_9 flσ_12 (by first | decide | (rcases hE with rfl | rfl | rfl <;> decide)) (by first | decide | (rcases hE with rfl | rfl | rfl <;> decide)) (by first | exact allS_1 (by first | assumption | decide) | exact allS_h | exact allS_0) (by first | exact allS_1 (by first | assumption | decide) | exact allS_h | exact allS_0)
      try simp (disch := omega) only [w32_of, w64_of, w8_of] at g11
      exact wp_some ⟨hσ_12, frσ_12, (by (try dsimp only) <;> (first | exact SHX_e (SHX_f flσ_12 (by assumption) (SHX_f flσ_9 (by assumption) (SHX_of (SHA_f flσ_3 (SHA_f flσ_1 w0))))) (by assumption) | exact (SHA_f flσ_3 (SHA_f flσ_1 w0)))), (by (try dsimp only) <;> (intro e9 q9; first | (injection q9; done) | (injection q9 with q8; omega)))⟩
    · rintro u14 σ_12 y17
      try dsimp only at y17 ⊢
      obtain ⟨hσ_12, flσ_12, g15, g16⟩ := y17
      have frσ_12 : FC [kQ_tapeSize, kQ_wrong, kQ_wrongPlace, kW_at, kW_collections, kW_depth, kW_length, kW_levelCounter, kW_levelKind, kW_number, kW_place, kW_shape, kW_wrong] allS σ σ_12 := FC_tr frσ_9 flσ_12 (by first | decide | (rcases hE with rfl | rfl | rfl <;> decide)) (by first | decide | (rcases hE with rfl | rfl | rfl <;> decide)) (by first | exact allS_1 (by first | assumption | decide) | exact allS_h | exact allS_0) (by first | exact allS_1 (by first | assumption | decide) | exact allS_h | exact allS_0)
      try simp (disch := omega) only [w32_of, w64_of, w8_of] at g15
      have g18 := g16 _ rfl
      try simp (disch := omega) only [w32_of, w64_of, w8_of] at g18
      exact ⟨hσ_12, frσ_12, (by (try dsimp only) <;> (first | exact SHX_e (SHX_f flσ_12 (by assumption) (SHX_f flσ_9 (by assumption) (SHX_of (SHA_f flσ_3 (SHA_f flσ_1 w0))))) (by assumption) | exact (SHA_f flσ_3 (SHA_f flσ_1 w0)))), (by (try dsimp only) <;> (intro e9 q9; first | (injection q9; done) | (injection q9 with q8; omega)))⟩
  · rintro u19 σ_3 y22
    try dsimp only at y22 ⊢
    obtain ⟨g20, g21, hσ_3, flσ_3r⟩ := y22
    have flσ_3 := FC_of flσ_3r (by decide)
    have frσ_3 : FC [kQ_tapeSize, kQ_wrong, kQ_wrongPlace, kW_at, kW_collections, kW_depth, kW_length, kW_levelCounter, kW_levelKind, kW_number, kW_place, kW_shape, kW_wrong] allS σ σ_3 := FC_tr frσ_1 flσ_3 (by first | decide | (rcases hE with rfl | rfl | rfl <;> decide)) (by first | decide | (rcases hE with rfl | rfl | rfl <;> decide)) (by first | exact allS_1 (by first | assumption | decide) | exact allS_h | exact allS_0) (by first | exact allS_1 (by first | assumption | decide) | exact allS_h | exact allS_0)
    have g23 := g21 _ rfl
    obtain ⟨g24, g25⟩ := g23
    try simp (disch := omega) only [w32_of, w64_of, w8_of] at g24
    try simp (disch := omega) only [w32_of, w64_of, w8_of] at g25
    exact ⟨hσ_3, frσ_3, (by (try dsimp only) <;> (first | exact SHX_e (SHX_f flσ_12 (by assumption) (SHX_f flσ_9 (by assumption) (SHX_of (SHA_f flσ_3 (SHA_f flσ_1 w0))))) (by assumption) | exact (SHA_f flσ_3 (SHA_f flσ_1 w0)))), (by (try dsimp only) <;> (intro e9 q9; first | (injection q9; done) | (injection q9 with q8; omega)))⟩
theorem s_Q_readBytes {σ : SG} {slot_0 : Int} (hσ : II σ) (qslot_0 : (-2147483648) ≤ slot_0 ∧ slot_0 ≤ 2147483647) (w0 : SHA σ) : wp_ (fQ_readBytes σ slot_0) (fun zz_ => II zz_.2 ∧ FC [kB_at, kB_collections, kB_depth, kB_length, kB_levelKind, kB_levelLeft, kB_lowFirst, kB_number, kB_place, kB_shape, kB_wrong, kQ_tapeSize, kQ_wrong, kQ_wrongPlace] allS σ zz_.2 ∧ (SHA zz_.2) ∧ (∀ e : Nat, zz_.1 = .inr e → e = 0 ∨ e = 2)) := by
  unfold fQ_readBytes
  refine wp_wfI hσ b_kQ_tapeSize (by (try dsimp only) <;> first | assumption | omega | ((try simp (disch := omega) only [w32_of, w64_of, w8_of]) <;> first | assumption | omega | (split <;> omega) | (refine And.intro ?_ ?_ <;> split <;> omega)) | omega) (fun σ_1 hσ_1 eσ_1 => ?_)
  try simp (disch := omega) only [w32_of, w64_of, w8_of] at eσ_1
  have flσ_1 := FC_sg eσ_1 (by first | decide | (rcases hE with rfl | rfl | rfl <;> decide))
  have frσ_1 : FC [kB_at, kB_collections, kB_depth, kB_length, kB_levelKind, kB_levelLeft, kB_lowFirst, kB_number, kB_place, kB_shape, kB_wrong, kQ_tapeSize, kQ_wrong, kQ_wrongPlace] allS σ σ_1 := FC_le flσ_1 (by first | decide | (rcases hE with rfl | rfl | rfl <;> decide)) (by first | exact allS_1 (by first | assumption | decide) | exact allS_h | exact allS_0)
  refine wp_bt (v_slotNumbered (σ := σ_1) (slot_0 := slot_0) hσ_1 (by (try dsimp only) <;> first | assumption | omega | ((try simp (disch := omega) only [w32_of, w64_of, w8_of]) <;> first | assumption | omega | (split <;> omega) | (refine And.intro ?_ ?_ <;> split <;> omega)) | omega)) ?_ ?_
  · rintro x_4 σ_3 y3
    try dsimp only at y3 ⊢
    obtain ⟨g1, g2, hσ_3, flσ_3r⟩ := y3
    have flσ_3 := FC_of flσ_3r (by decide)
    have frσ_3 : FC [kB_at, kB_collections, kB_depth, kB_length, kB_levelKind, kB_levelLeft, kB_lowFirst, kB_number, kB_place, kB_shape, kB_wrong, kQ_tapeSize, kQ_wrong, kQ_wrongPlace] allS σ σ_3 := FC_tr frσ_1 flσ_3 (by first | decide | (rcases hE with rfl | rfl | rfl <;> decide)) (by first | decide | (rcases hE with rfl | rfl | rfl <;> decide)) (by first | exact allS_1 (by first | assumption | decide) | exact allS_h | exact allS_0) (by first | exact allS_1 (by first | assumption | decide) | exact allS_h | exact allS_0)
    have g4 := g1 _ rfl
    obtain ⟨g5, g6⟩ := g4
    try simp (disch := omega) only [w32_of, w64_of, w8_of] at g5
    try simp (disch := omega) only [w32_of, w64_of, w8_of] at g6
    refine wp_ck (by first | assumption | decide | omega) ?_
    have c7 := ii_kQ_tapeSize hσ 0
    refine wp_bd (s_B_readInto (σ := σ_3) (into_0 := x_4) (bytes_0 := (σ kQ_tapeSize 0)) hσ_3 (by first | assumption | decide | omega) (by (try dsimp only) <;> first | assumption | omega | ((try simp (disch := omega) only [w32_of, w64_of, w8_of]) <;> first | assumption | omega | (split <;> omega) | (refine And.intro ?_ ?_ <;> split <;> omega)) | omega)) ?_
    rintro ⟨x_10, σ_9⟩ - y8
    try dsimp only at y8 ⊢
    obtain ⟨hσ_9, flσ_9, hri⟩ := y8
    have frσ_9 : FC [kB_at, kB_collections, kB_depth, kB_length, kB_levelKind, kB_levelLeft, kB_lowFirst, kB_number, kB_place, kB_shape, kB_wrong, kQ_tapeSize, kQ_wrong, kQ_wrongPlace] allS σ σ_9 := FC_tr frσ_3 flσ_9 (by first | decide | (rcases hE with rfl | rfl | rfl <;> decide)) (by first | decide | (rcases hE with rfl | rfl | rfl <;> decide)) (by first | exact allS_1 (by first | assumption | decide) | exact allS_h | exact allS_0) (by first | exact allS_1 (by first | assumption | decide) | exact allS_h | exact allS_0)
    try simp (disch := omega) only [w32_of, w64_of, w8_of] at hri
    have c9 := ii_kB_wrong hσ_9 0
    have c10 := ii_kB_place hσ_9 0
    refine wp_bt (s_Q_kindOrFault (σ := σ_9) (shape_0 := x_4) (good_0 := x_10) (code_0 := (σ_9 kB_wrong 0)) (at_0 := (σ_9 kB_place 0)) hσ_9 (by first | assumption | decide | omega) (by (try dsimp only) <;> first | assumption | omega | ((try simp (disch := omega) only [w32_of, w64_of, w8_of]) <;> first | assumption | omega | (split <;> omega) | (refine And.intro ?_ ?_ <;> split <;> omega)) | omega) (by (try dsimp only) <;> first | assumption | omega | ((try simp (disch := omega) only [w32_of, w64_of, w8_of]) <;> first | assumption | omega | (split <;> omega) | (refine And.intro ?_ ?_ <;> split <;> omega)) | omega) (by exact hri) (by (try dsimp only) <;> first | assumption | omega | ((try simp (disch := omega) only [w32_of, w64_of, w8_of]) <;> first | assumption | omega | (split <;> omega) | (refine And.intro ?_ ?_ <;> split <;> omega)) | omega) (by (try dsimp only) <;> first | assumption | omega | ((try simp (disch := omega) only [w32_of, w64_of, w8_of]) <;> first | assumption | omega | (split <;> omega) | (refine And.intro ?_ ?_ <;> split <;> omega)) | omega)) ?_ ?_
    · rintro x_13 σ_12 y13
      try dsimp only at y13 ⊢
      obtain ⟨hσ_12, flσ_12, g11, g12⟩ := y13
      have frσ_12 : FC [kB_at, kB_collections, kB_depth, kB_length, kB_levelKind, kB_levelLeft, kB_lowFirst, kB_number, kB_place, kB_shape, kB_wrong, kQ_tapeSize, kQ_wrong, kQ_wrongPlace] allS σ σ_12 := FC_tr frσ_9 flσ_12 (by first | decide | (rcases hE with rfl | rfl | rfl <;> decide)) (by first | decide | (rcases hE with rfl | rfl | rfl <;> decide)) (by first | exact allS_1 (by first | assumption | decide) | exact allS_h | exact allS_0) (by first | exact allS_1 (by first | assumption | decide) | exact allS_h | exact allS_0)
      try simp (disch := omega) only [w32_of, w64_of, w8_of] at g11
      exact wp_some ⟨hσ_12, frσ_12, (by (try dsimp only) <;> (first | exact SHX_e (SHX_f flσ_12 (by assumption) (SHX_f flσ_9 (by assumption) (SHX_of (SHA_f flσ_3 (SHA_f flσ_1 w0))))) (by assumption) | exact (SHA_f flσ_3 (SHA_f flσ_1 w0)))), (by (try dsimp only) <;> (intro e9 q9; first | (injection q9; done) | (injection q9 with q8; omega)))⟩
    · rintro u14 σ_12 y17
      try dsimp only at y17 ⊢
      obtain ⟨hσ_12, flσ_12, g15, g16⟩ := y17
      have frσ_12 : FC [kB_at, kB_collections, kB_depth, kB_length, kB_levelKind, kB_levelLeft, kB_lowFirst, kB_number, kB_place, kB_shape, kB_wrong, kQ_tapeSize, kQ_wrong, kQ_wrongPlace] allS σ σ_12 := FC_tr frσ_9 flσ_12 (by first | decide | (rcases hE with rfl | rfl | rfl <;> decide)) (by first | decide | (rcases hE with rfl | rfl | rfl <;> decide)) (by first | exact allS_1 (by first | assumption | decide) | exact allS_h | exact allS_0) (by first | exact allS_1 (by first | assumption | decide) | exact allS_h | exact allS_0)
      try simp (disch := omega) only [w32_of, w64_of, w8_of] at g15
      have g18 := g16 _ rfl
      try simp (disch := omega) only [w32_of, w64_of, w8_of] at g18
      exact ⟨hσ_12, frσ_12, (by (try dsimp only) <;> (first | exact SHX_e (SHX_f flσ_12 (by assumption) (SHX_f flσ_9 (by assumption) (SHX_of (SHA_f flσ_3 (SHA_f flσ_1 w0))))) (by assumption) | exact (SHA_f flσ_3 (SHA_f flσ_1 w0)))), (by (try dsimp only) <;> (intro e9 q9; first | (injection q9; done) | (injection q9 with q8; omega)))⟩
  · rintro u19 σ_3 y22
    try dsimp only at y22 ⊢
    obtain ⟨g20, g21, hσ_3, flσ_3r⟩ := y22
    have flσ_3 := FC_of flσ_3r (by decide)
    have frσ_3 : FC [kB_at, kB_collections, kB_depth, kB_length, kB_levelKind, kB_levelLeft, kB_lowFirst, kB_number, kB_place, kB_shape, kB_wrong, kQ_tapeSize, kQ_wrong, kQ_wrongPlace] allS σ σ_3 := FC_tr frσ_1 flσ_3 (by first | decide | (rcases hE with rfl | rfl | rfl <;> decide)) (by first | decide | (rcases hE with rfl | rfl | rfl <;> decide)) (by first | exact allS_1 (by first | assumption | decide) | exact allS_h | exact allS_0) (by first | exact allS_1 (by first | assumption | decide) | exact allS_h | exact allS_0)
    have g23 := g21 _ rfl
    obtain ⟨g24, g25⟩ := g23
    try simp (disch := omega) only [w32_of, w64_of, w8_of] at g24
    try simp (disch := omega) only [w32_of, w64_of, w8_of] at g25
    exact ⟨hσ_3, frσ_3, (by (try dsimp only) <;> (first | exact SHX_e (SHX_f flσ_12 (by assumption) (SHX_f flσ_9 (by assumption) (SHX_of (SHA_f flσ_3 (SHA_f flσ_1 w0))))) (by assumption) | exact (SHA_f flσ_3 (SHA_f flσ_1 w0)))), (by (try dsimp only) <;> (intro e9 q9; first | (injection q9; done) | (injection q9 with q8; omega)))⟩
theorem s_Q_writeWords {σ : SG} {slot_0 : Int} (hσ : II σ) (qslot_0 : (-2147483648) ≤ slot_0 ∧ slot_0 ≤ 2147483647) (w0 : SHA σ) : wp_ (fQ_writeWords σ slot_0) (fun zz_ => II zz_.2 ∧ FC [kO_levelKind, kO_levelLeft, kO_row, kO_size] [] σ zz_.2 ∧ (∀ e : Nat, zz_.1 = .inr e → e = 0 ∨ e = 1)) := by
  unfold fQ_writeWords
  refine wp_bt (v_slotNumbered (σ := σ) (slot_0 := slot_0) hσ (by (try dsimp only) <;> first | assumption | omega | ((try simp (disch := omega) only [w32_of, w64_of, w8_of]) <;> first | assumption | omega | (split <;> omega) | (refine And.intro ?_ ?_ <;> split <;> omega)) | omega)) ?_ ?_
  · rintro x_3 σ_2 y3
    try dsimp only at y3 ⊢
    obtain ⟨g1, g2, hσ_2, flσ_2r⟩ := y3
    have flσ_2 := FC_of flσ_2r (by decide)
    have frσ_2 : FC [kO_levelKind, kO_levelLeft, kO_row, kO_size] [] σ σ_2 := FC_le flσ_2 (by first | decide | (rcases hE with rfl | rfl | rfl <;> decide)) (by simp)
    have g4 := g1 _ rfl
    obtain ⟨g5, g6⟩ := g4
    try simp (disch := omega) only [w32_of, w64_of, w8_of] at g5
    try simp (disch := omega) only [w32_of, w64_of, w8_of] at g6
    refine wp_ck (by first | assumption | decide | omega) ?_
    refine wp_bt (s_Q_mustBeThere (σ := σ_2) (shape_0 := x_3) hσ_2) ?_ ?_
    · rintro u7 σ_8 y9
      try dsimp only at y9 ⊢
      obtain ⟨g8, hσ_8, flσ_8r⟩ := y9
      have flσ_8 := FC_of flσ_8r (by decide)
      have frσ_8 : FC [kO_levelKind, kO_levelLeft, kO_row, kO_size] [] σ σ_8 := FC_tr frσ_2 flσ_8 (by first | decide | (rcases hE with rfl | rfl | rfl <;> decide)) (by first | decide | (rcases hE with rfl | rfl | rfl <;> decide)) (by simp) (by simp)
      refine wp_bd (s_O_tellInWords (σ := σ_8) (shape_0 := x_3) hσ_8 (by first | assumption | decide | omega) (by exact SHA_f frσ_8 w0 x_3 (by assumption) (by assumption))) ?_
      rintro ⟨x_14, σ_13⟩ - y11
      try dsimp only at y11 ⊢
      obtain ⟨hσ_13, flσ_13, g10⟩ := y11
      have frσ_13 : FC [kO_levelKind, kO_levelLeft, kO_row, kO_size] [] σ σ_13 := FC_tr frσ_8 flσ_13 (by first | decide | (rcases hE with rfl | rfl | rfl <;> decide)) (by first | decide | (rcases hE with rfl | rfl | rfl <;> decide)) (by simp) (by simp)
      try simp (disch := omega) only [w32_of, w64_of, w8_of] at g10
      exact wp_some ⟨hσ_13, frσ_13, (by (try dsimp only) <;> (intro e9 q9; first | (injection q9; done) | (injection q9 with q8; omega)))⟩
    · rintro u12 σ_8 y14
      try dsimp only at y14 ⊢
      obtain ⟨g13, hσ_8, flσ_8r⟩ := y14
      have flσ_8 := FC_of flσ_8r (by decide)
      have frσ_8 : FC [kO_levelKind, kO_levelLeft, kO_row, kO_size] [] σ σ_8 := FC_tr frσ_2 flσ_8 (by first | decide | (rcases hE with rfl | rfl | rfl <;> decide)) (by first | decide | (rcases hE with rfl | rfl | rfl <;> decide)) (by simp) (by simp)
      have g15 := g13 _ rfl
      obtain ⟨g16, g17⟩ := g15
      try simp (disch := omega) only [w32_of, w64_of, w8_of] at g16
      try simp (disch := omega) only [w32_of, w64_of, w8_of] at g17
      exact ⟨hσ_8, frσ_8, (by (try dsimp only) <;> (intro e9 q9; first | (injection q9; done) | (injection q9 with q8; omega)))⟩
  · rintro u18 σ_2 y21
    try dsimp only at y21 ⊢
    obtain ⟨g19, g20, hσ_2, flσ_2r⟩ := y21
    have flσ_2 := FC_of flσ_2r (by decide)
    have frσ_2 : FC [kO_levelKind, kO_levelLeft, kO_row, kO_size] [] σ σ_2 := FC_le flσ_2 (by first | decide | (rcases hE with rfl | rfl | rfl <;> decide)) (by simp)
    have g22 := g20 _ rfl
    obtain ⟨g23, g24⟩ := g22
    try simp (disch := omega) only [w32_of, w64_of, w8_of] at g23
    try simp (disch := omega) only [w32_of, w64_of, w8_of] at g24
    exact ⟨hσ_2, frσ_2, (by (try dsimp only) <;> (intro e9 q9; first | (injection q9; done) | (injection q9 with q8; omega)))⟩
theorem s_Q_writeBytes {σ : SG} {slot_0 : Int} {order_0 : Int} (hσ : II σ) (qslot_0 : (-2147483648) ≤ slot_0 ∧ slot_0 ≤ 2147483647) (qorder_0 : (-2147483648) ≤ order_0 ∧ order_0 ≤ 2147483647) (w0 : SHA σ) : wp_ (fQ_writeBytes σ slot_0 order_0) (fun zz_ => II zz_.2 ∧ FC [kO_lowFirst, kO_row, kO_size] [] σ zz_.2 ∧ (∀ e : Nat, zz_.1 = .inr e → e = 0 ∨ e = 1 ∨ e = 2)) := by
  unfold fQ_writeBytes
  refine wp_bt (v_slotNumbered (σ := σ) (slot_0 := slot_0) hσ (by (try dsimp only) <;> first | assumption | omega | ((try simp (disch := omega) only [w32_of, w64_of, w8_of]) <;> first | assumption | omega | (split <;> omega) | (refine And.intro ?_ ?_ <;> split <;> omega)) | omega)) ?_ ?_
  · rintro x_3 σ_2 y3
    try dsimp only at y3 ⊢
    obtain ⟨g1, g2, hσ_2, flσ_2r⟩ := y3
    have flσ_2 := FC_of flσ_2r (by decide)
    have frσ_2 : FC [kO_lowFirst, kO_row, kO_size] [] σ σ_2 := FC_le flσ_2 (by first | decide | (rcases hE with rfl | rfl | rfl <;> decide)) (by simp)
    have g4 := g1 _ rfl
    obtain ⟨g5, g6⟩ := g4
    try simp (disch := omega) only [w32_of, w64_of, w8_of] at g5
    try simp (disch := omega) only [w32_of, w64_of, w8_of] at g6
    refine wp_ck (by first | assumption | decide | omega) ?_
    refine wp_bt (s_Q_mustBeThere (σ := σ_2) (shape_0 := x_3) hσ_2) ?_ ?_
    · rintro u7 σ_8 y9
      try dsimp only at y9 ⊢
      obtain ⟨g8, hσ_8, flσ_8r⟩ := y9
      have flσ_8 := FC_of flσ_8r (by decide)
      have frσ_8 : FC [kO_lowFirst, kO_row, kO_size] [] σ σ_8 := FC_tr frσ_2 flσ_8 (by first | decide | (rcases hE with rfl | rfl | rfl <;> decide)) (by first | decide | (rcases hE with rfl | rfl | rfl <;> decide)) (by simp) (by simp)
      have c11 := w32_rng order_0
      refine wp_if (fun c10 => ?_) (fun c10 => ?_)
      · try simp (disch := omega) only [w32_of, w64_of, w8_of, decide_eq_true_eq, decide_eq_false_iff_not, Bool.not_eq_true] at c10
        exact wp_some ⟨hσ_8, frσ_8, (by (try dsimp only) <;> (intro e9 q9; first | (injection q9; done) | (injection q9 with q8; omega)))⟩
      · try simp (disch := omega) only [w32_of, w64_of, w8_of, decide_eq_true_eq, decide_eq_false_iff_not, Bool.not_eq_true] at c10
        refine wp_bd (s_O_tellInBytes (σ := σ_8) (shape_0 := x_3) (order_0 := order_0) hσ_8 (by first | assumption | decide | omega) (by exact SHA_f frσ_8 w0 x_3 (by assumption) (by assumption)) (by (try dsimp only) <;> first | assumption | omega | ((try simp (disch := omega) only [w32_of, w64_of, w8_of]) <;> first | assumption | omega | (split <;> omega) | (refine And.intro ?_ ?_ <;> split <;> omega)) | omega)) ?_
        rintro ⟨x_14, σ_13⟩ - y13
        try dsimp only at y13 ⊢
        obtain ⟨hσ_13, flσ_13, g12⟩ := y13
        have frσ_13 : FC [kO_lowFirst, kO_row, kO_size] [] σ σ_13 := FC_tr frσ_8 flσ_13 (by first | decide | (rcases hE with rfl | rfl | rfl <;> decide)) (by first | decide | (rcases hE with rfl | rfl | rfl <;> decide)) (by simp) (by simp)
        try simp (disch := omega) only [w32_of, w64_of, w8_of] at g12
        exact wp_some ⟨hσ_13, frσ_13, (by (try dsimp only) <;> (intro e9 q9; first | (injection q9; done) | (injection q9 with q8; omega)))⟩
    · rintro u14 σ_8 y16
      try dsimp only at y16 ⊢
      obtain ⟨g15, hσ_8, flσ_8r⟩ := y16
      have flσ_8 := FC_of flσ_8r (by decide)
      have frσ_8 : FC [kO_lowFirst, kO_row, kO_size] [] σ σ_8 := FC_tr frσ_2 flσ_8 (by first | decide | (rcases hE with rfl | rfl | rfl <;> decide)) (by first | decide | (rcases hE with rfl | rfl | rfl <;> decide)) (by simp) (by simp)
      have g17 := g15 _ rfl
      obtain ⟨g18, g19⟩ := g17
      try simp (disch := omega) only [w32_of, w64_of, w8_of] at g18
      try simp (disch := omega) only [w32_of, w64_of, w8_of] at g19
      exact ⟨hσ_8, frσ_8, (by (try dsimp only) <;> (intro e9 q9; first | (injection q9; done) | (injection q9 with q8; omega)))⟩
  · rintro u20 σ_2 y23
    try dsimp only at y23 ⊢
    obtain ⟨g21, g22, hσ_2, flσ_2r⟩ := y23
    have flσ_2 := FC_of flσ_2r (by decide)
    have frσ_2 : FC [kO_lowFirst, kO_row, kO_size] [] σ σ_2 := FC_le flσ_2 (by first | decide | (rcases hE with rfl | rfl | rfl <;> decide)) (by simp)
    have g24 := g22 _ rfl
    obtain ⟨g25, g26⟩ := g24
    try simp (disch := omega) only [w32_of, w64_of, w8_of] at g25
    try simp (disch := omega) only [w32_of, w64_of, w8_of] at g26
    exact ⟨hσ_2, frσ_2, (by (try dsimp only) <;> (intro e9 q9; first | (injection q9; done) | (injection q9 with q8; omega)))⟩
theorem s_Q_copy {σ : SG} {from_0 : Int} {to_0 : Int} (hσ : II σ) (qfrom_0 : (-2147483648) ≤ from_0 ∧ from_0 ≤ 2147483647) (qto_0 : (-2147483648) ≤ to_0 ∧ to_0 ≤ 2147483647) (w0 : SHA σ) : wp_ (fQ_copy σ from_0 to_0) (fun zz_ => II zz_.2 ∧ FC [] allS σ zz_.2 ∧ (SHA zz_.2) ∧ (∀ e : Nat, zz_.1 = .inr e → e = 0 ∨ e = 1)) := by
  unfold fQ_copy
  refine wp_bt (v_slotNumbered (σ := σ) (slot_0 := from_0) hσ (by (try dsimp only) <;> first | assumption | omega | ((try simp (disch := omega) only [w32_of, w64_of, w8_of]) <;> first | assumption | omega | (split <;> omega) | (refine And.intro ?_ ?_ <;> split <;> omega)) | omega)) ?_ ?_
  · rintro x_3 σ_2 y3
    try dsimp only at y3 ⊢
    obtain ⟨g1, g2, hσ_2, flσ_2r⟩ := y3
    have flσ_2 := FC_of flσ_2r (by decide)
    have frσ_2 : FC [] allS σ σ_2 := FC_le flσ_2 (by first | decide | (rcases hE with rfl | rfl | rfl <;> decide)) (by first | exact allS_1 (by first | assumption | decide) | exact allS_h | exact allS_0)
    have g4 := g1 _ rfl
    obtain ⟨g5, g6⟩ := g4
    try simp (disch := omega) only [w32_of, w64_of, w8_of] at g5
    try simp (disch := omega) only [w32_of, w64_of, w8_of] at g6
    refine wp_ck (by first | assumption | decide | omega) ?_
    refine wp_bt (v_slotNumbered (σ := σ_2) (slot_0 := to_0) hσ_2 (by (try dsimp only) <;> first | assumption | omega | ((try simp (disch := omega) only [w32_of, w64_of, w8_of]) <;> first | assumption | omega | (split <;> omega) | (refine And.intro ?_ ?_ <;> split <;> omega)) | omega)) ?_ ?_
    · rintro x_9 σ_8 y9
      try dsimp only at y9 ⊢
      obtain ⟨g7, g8, hσ_8, flσ_8r⟩ := y9
      have flσ_8 := FC_of flσ_8r (by decide)
      have frσ_8 : FC [] allS σ σ_8 := FC_tr frσ_2 flσ_8 (by first | decide | (rcases hE with rfl | rfl | rfl <;> decide)) (by first | decide | (rcases hE with rfl | rfl | rfl <;> decide)) (by first | exact allS_1 (by first | assumption | decide) | exact allS_h | exact allS_0) (by first | exact allS_1 (by first | assumption | decide) | exact allS_h | exact allS_0)
      have g10 := g7 _ rfl
      obtain ⟨g11, g12⟩ := g10
      try simp (disch := omega) only [w32_of, w64_of, w8_of] at g11
      try simp (disch := omega) only [w32_of, w64_of, w8_of] at g12
      refine wp_ck (by first | assumption | decide | omega) ?_
      refine wp_bt (s_Q_mustBeThere (σ := σ_8) (shape_0 := x_3) hσ_8) ?_ ?_
      · rintro u13 σ_14 y15
        try dsimp only at y15 ⊢
        obtain ⟨g14, hσ_14, flσ_14r⟩ := y15
        have flσ_14 := FC_of flσ_14r (by decide)
        have frσ_14 : FC [] allS σ σ_14 := FC_tr frσ_8 flσ_14 (by first | decide | (rcases hE with rfl | rfl | rfl <;> decide)) (by first | decide | (rcases hE with rfl | rfl | rfl <;> decide)) (by first | exact allS_1 (by first | assumption | decide) | exact allS_h | exact allS_0) (by first | exact allS_1 (by first | assumption | decide) | exact allS_h | exact allS_0)
        refine wp_bd (v_become (σ := σ_14) (this_0 := x_9) (other_0 := x_3) hσ_14 (by first | assumption | decide | omega) (by first | assumption | decide | omega)) ?_
        rintro σ_19 - ⟨hσ_19, flσ_19, hb1, hb2, hb3, hb4, hb5⟩
        have frσ_19 : FC [] allS σ σ_19 := FC_tr frσ_14 flσ_19 (by first | decide | (rcases hE with rfl | rfl | rfl <;> decide)) (by first | decide | (rcases hE with rfl | rfl | rfl <;> decide)) (by first | exact allS_1 (by first | assumption | decide) | exact allS_h | exact allS_0) (by first | exact allS_1 (by first | assumption | decide) | exact allS_h | exact allS_0)
        try simp only [FC_plans (t := x_3) frσ_14 (by first | assumption | decide | omega) (NS_1 (by first | assumption | decide | omega) (by first | assumption | decide | omega))] at hb1
        try simp only [FC_plans (t := x_9) frσ_19 (by first | assumption | decide | omega) (NS_1 (by first | assumption | decide | omega) (by first | assumption | decide | omega))] at hb1
        have c16 := iiA_plans (s := x_9) hσ (by first | assumption | decide | omega) 0
        have c17 := iiA_plans (s := x_3) hσ (by first | assumption | decide | omega) 0
        try simp (disch := omega) only [w32_of, w64_of, w8_of] at hb1
        try simp only [FC_points (t := x_3) frσ_14 (by first | assumption | decide | omega) (NS_1 (by first | assumption | decide | omega) (by first | assumption | decide | omega))] at hb2
        try simp only [FC_points (t := x_9) frσ_19 (by first | assumption | decide | omega) (NS_1 (by first | assumption | decide | omega) (by first | assumption | decide | omega))] at hb2
        have c18 := iiA_points (s := x_9) hσ (by first | assumption | decide | omega) 0
        have c19 := iiA_points (s := x_3) hσ (by first | assumption | decide | omega) 0
        try simp (disch := omega) only [w32_of, w64_of, w8_of] at hb2
        try simp only [FC_plan (t := x_3) frσ_14 (by first | assumption | decide | omega) (NS_1 (by first | assumption | decide | omega) (by first | assumption | decide | omega))] at hb3
        try simp only [FC_plans (t := x_3) frσ_14 (by first | assumption | decide | omega) (NS_1 (by first | assumption | decide | omega) (by first | assumption | decide | omega))] at hb3
        try simp only [FC_plan (t := x_9) frσ_19 (by first | assumption | decide | omega) (NS_1 (by first | assumption | decide | omega) (by first | assumption | decide | omega))] at hb3
        try simp (disch := omega) only [w32_of, w64_of, w8_of] at hb3
        try simp only [FC_points (t := x_3) frσ_14 (by first | assumption | decide | omega) (NS_1 (by first | assumption | decide | omega) (by first | assumption | decide | omega))] at hb4
        try simp only [FC_x (t := x_3) frσ_14 (by first | assumption | decide | omega) (NS_1 (by first | assumption | decide | omega) (by first | assumption | decide | omega))] at hb4
        try simp only [FC_y (t := x_3) frσ_14 (by first | assumption | decide | omega) (NS_1 (by first | assumption | decide | omega) (by first | assumption | decide | omega))] at hb4
        try simp only [FC_x (t := x_9) frσ_19 (by first | assumption | decide | omega) (NS_1 (by first | assumption | decide | omega) (by first | assumption | decide | omega))] at hb4
        try simp only [FC_y (t := x_9) frσ_19 (by first | assumption | decide | omega) (NS_1 (by first | assumption | decide | omega) (by first | assumption | decide | omega))] at hb4
        try simp (disch := omega) only [w32_of, w64_of, w8_of] at hb4
        try simp (disch := omega) only [w32_of, w64_of, w8_of] at hb5
        refine wp_bd (s_A_kind (σ := σ_19) (this_0 := x_9) hσ_19 (by first | assumption | decide | omega)) ?_
        rintro x_21 - g20
        try simp only [FC_plan (t := x_9) frσ_19 (by first | assumption | decide | omega) (NS_1 (by first | assumption | decide | omega) (by first | assumption | decide | omega))] at g20
        try simp only [FC_plans (t := x_9) frσ_19 (by first | assumption | decide | omega) (NS_1 (by first | assumption | decide | omega) (by first | assumption | decide | omega))] at g20
        try simp (disch := omega) only [w32_of, w64_of, w8_of] at g20
        exact wp_some ⟨hσ_19, frσ_19, (by (try dsimp only) <;> (first | (have s14 := SHA_f flσ_14 (SHA_f flσ_8 (SHA_f flσ_2 w0)); exact SHA_w flσ_19 (by assumption) s14 (hb5 (s14 x_3 (by assumption) (by assumption)))) | exact SHA_f flσ_14 (SHA_f flσ_8 (SHA_f flσ_2 w0)) | exact SHA_f flσ_8 (SHA_f flσ_2 w0) | exact SHA_f flσ_2 w0)), (by (try dsimp only) <;> (intro e9 q9; first | (injection q9; done) | (injection q9 with q8; omega)))⟩
      · rintro u21 σ_14 y23
        try dsimp only at y23 ⊢
        obtain ⟨g22, hσ_14, flσ_14r⟩ := y23
        have flσ_14 := FC_of flσ_14r (by decide)
        have frσ_14 : FC [] allS σ σ_14 := FC_tr frσ_8 flσ_14 (by first | decide | (rcases hE with rfl | rfl | rfl <;> decide)) (by first | decide | (rcases hE with rfl | rfl | rfl <;> decide)) (by first | exact allS_1 (by first | assumption | decide) | exact allS_h | exact allS_0) (by first | exact allS_1 (by first | assumption | decide) | exact allS_h | exact allS_0)
        have g24 := g22 _ rfl
        obtain ⟨g25, g26⟩ := g24
        try simp (disch := omega) only [w32_of, w64_of, w8_of] at g25
        try simp (disch := omega) only [w32_of, w64_of, w8_of] at g26
        exact ⟨hσ_14, frσ_14, (by (try dsimp only) <;> (first | (have s14 := SHA_f flσ_14 (SHA_f flσ_8 (SHA_f flσ_2 w0)); exact SHA_w flσ_19 (by assumption) s14 (hb5 (s14 x_3 (by assumption) (by assumption)))) | exact SHA_f flσ_14 (SHA_f flσ_8 (SHA_f flσ_2 w0)) | exact SHA_f flσ_8 (SHA_f flσ_2 w0) | exact SHA_f flσ_2 w0)), (by (try dsimp only) <;> (intro e9 q9; first | (injection q9; done) | (injection q9 with q8; omega)))⟩
    · rintro u27 σ_8 y30
      try dsimp only at y30 ⊢
      obtain ⟨g28, g29, hσ_8, flσ_8r⟩ := y30
      have flσ_8 := FC_of flσ_8r (by decide)
      have frσ_8 : FC [] allS σ σ_8 := FC_tr frσ_2 flσ_8 (by first | decide | (rcases hE with rfl | rfl | rfl <;> decide)) (by first | decide | (rcases hE with rfl | rfl | rfl <;> decide)) (by first | exact allS_1 (by first | assumption | decide) | exact allS_h | exact allS_0) (by first | exact allS_1 (by first | assumption | decide) | exact allS_h | exact allS_0)
      have g31 := g29 _ rfl
      obtain ⟨g32, g33⟩ := g31
      try simp (disch := omega) only [w32_of, w64_of, w8_of] at g32
      try simp (disch := omega) only [w32_of, w64_of, w8_of] at g33
      exact ⟨hσ_8, frσ_8, (by (try dsimp only) <;> (first | (have s14 := SHA_f flσ_14 (SHA_f flσ_8 (SHA_f flσ_2 w0)); exact SHA_w flσ_19 (by assumption) s14 (hb5 (s14 x_3 (by assumption) (by assumption)))) | exact SHA_f flσ_14 (SHA_f flσ_8 (SHA_f flσ_2 w0)) | exact SHA_f flσ_8 (SHA_f flσ_2 w0) | exact SHA_f flσ_2 w0)), (by (try dsimp only) <;> (intro e9 q9; first | (injection q9; done) | (injection q9 with q8; omega)))⟩
  · rintro u34 σ_2 y37
    try dsimp only at y37 ⊢
    obtain ⟨g35, g36, hσ_2, flσ_2r⟩ := y37
    have flσ_2 := FC_of flσ_2r (by decide)
    have frσ_2 : FC [] allS σ σ_2 := FC_le flσ_2 (by first | decide | (rcases hE with rfl | rfl | rfl <;> decide)) (by first | exact allS_1 (by first | assumption | decide) | exact allS_h | exact allS_0)
    have g38 := g36 _ rfl
    obtain ⟨g39, g40⟩ := g38
    try simp (disch := omega) only [w32_of, w64_of, w8_of] at g39
    try simp (disch := omega) only [w32_of, w64_of, w8_of] at g40
    exact ⟨hσ_2, frσ_2, (by (try dsimp only) <;> (first | (have s14 := SHA_f flσ_14 (SHA_f flσ_8 (SHA_f flσ_2 w0)); exact SHA_w flσ_19 (by assumption) s14 (hb5 (s14 x_3 (by assumption) (by assumption)))) | exact SHA_f flσ_14 (SHA_f flσ_8 (SHA_f flσ_2 w0)) | exact SHA_f flσ_8 (SHA_f flσ_2 w0) | exact SHA_f flσ_2 w0)), (by (try dsimp only) <;> (intro e9 q9; first | (injection q9; done) | (injection q9 with q8; omega)))⟩
theorem s_Q_drop {σ : SG} {slot_0 : Int} (hσ : II σ) (qslot_0 : (-2147483648) ≤ slot_0 ∧ slot_0 ≤ 2147483647) (w0 : SHA σ) : wp_ (fQ_drop σ slot_0) (fun zz_ => II zz_.2 ∧ FC [] allS σ zz_.2 ∧ (SHA zz_.2) ∧ (∀ e : Nat, zz_.1 = .inr e → e = 0)) := by
  unfold fQ_drop
  refine wp_bt (v_slotNumbered (σ := σ) (slot_0 := slot_0) hσ (by (try dsimp only) <;> first | assumption | omega | ((try simp (disch := omega) only [w32_of, w64_of, w8_of]) <;> first | assumption | omega | (split <;> omega) | (refine And.intro ?_ ?_ <;> split <;> omega)) | omega)) ?_ ?_
  · rintro x_3 σ_2 y3
    try dsimp only at y3 ⊢
    obtain ⟨g1, g2, hσ_2, flσ_2r⟩ := y3
    have flσ_2 := FC_of flσ_2r (by decide)
    have frσ_2 : FC [] allS σ σ_2 := FC_le flσ_2 (by first | decide | (rcases hE with rfl | rfl | rfl <;> decide)) (by first | exact allS_1 (by first | assumption | decide) | exact allS_h | exact allS_0)
    have g4 := g1 _ rfl
    obtain ⟨g5, g6⟩ := g4
    try simp (disch := omega) only [w32_of, w64_of, w8_of] at g5
    try simp (disch := omega) only [w32_of, w64_of, w8_of] at g6
    refine wp_ck (by first | assumption | decide | omega) ?_
    refine wp_bd (v_clearA (σ := σ_2) (this_0 := x_3) hσ_2 (by first | assumption | decide | omega)) ?_
    rintro σ_8 - ⟨hσ_8, flσ_8, hc1, hc2⟩
    have frσ_8 : FC [] allS σ σ_8 := FC_tr frσ_2 flσ_8 (by first | decide | (rcases hE with rfl | rfl | rfl <;> decide)) (by first | decide | (rcases hE with rfl | rfl | rfl <;> decide)) (by first | exact allS_1 (by first | assumption | decide) | exact allS_h | exact allS_0) (by first | exact allS_1 (by first | assumption | decide) | exact allS_h | exact allS_0)
    try simp only [FC_plans (t := x_3) frσ_8 (by first | assumption | decide | omega) (NS_1 (by first | assumption | decide | omega) (by first | assumption | decide | omega))] at hc1
    have c7 := iiA_plans (s := x_3) hσ (by first | assumption | decide | omega) 0
    try simp (disch := omega) only [w32_of, w64_of, w8_of] at hc1
    try simp only [FC_points (t := x_3) frσ_8 (by first | assumption | decide | omega) (NS_1 (by first | assumption | decide | omega) (by first | assumption | decide | omega))] at hc2
    have c8 := iiA_points (s := x_3) hσ (by first | assumption | decide | omega) 0
    try simp (disch := omega) only [w32_of, w64_of, w8_of] at hc2
    exact wp_some ⟨hσ_8, frσ_8, (by (try dsimp only) <;> (first | exact SHA_w flσ_8 (by assumption) (SHA_f flσ_2 w0) (SHa_z hc1 hc2) | exact SHA_f flσ_2 w0)), (by (try dsimp only) <;> (intro e9 q9; first | (injection q9; done) | (injection q9 with q8; omega)))⟩
  · rintro u9 σ_2 y12
    try dsimp only at y12 ⊢
    obtain ⟨g10, g11, hσ_2, flσ_2r⟩ := y12
    have flσ_2 := FC_of flσ_2r (by decide)
    have frσ_2 : FC [] allS σ σ_2 := FC_le flσ_2 (by first | decide | (rcases hE with rfl | rfl | rfl <;> decide)) (by first | exact allS_1 (by first | assumption | decide) | exact allS_h | exact allS_0)
    have g13 := g11 _ rfl
    obtain ⟨g14, g15⟩ := g13
    try simp (disch := omega) only [w32_of, w64_of, w8_of] at g14
    try simp (disch := omega) only [w32_of, w64_of, w8_of] at g15
    exact ⟨hσ_2, frσ_2, (by (try dsimp only) <;> (first | exact SHA_w flσ_8 (by assumption) (SHA_f flσ_2 w0) (SHa_z hc1 hc2) | exact SHA_f flσ_2 w0)), (by (try dsimp only) <;> (intro e9 q9; first | (injection q9; done) | (injection q9 with q8; omega)))⟩
theorem s_Q_same {σ : SG} {slot_0 : Int} {other_0 : Int} (hσ : II σ) (qslot_0 : (-2147483648) ≤ slot_0 ∧ slot_0 ≤ 2147483647) (qother_0 : (-2147483648) ≤ other_0 ∧ other_0 ≤ 2147483647) : wp_ (fQ_same σ slot_0 other_0) (fun zz_ => II zz_.2 ∧ FC [] [] σ zz_.2 ∧ (∀ e : Nat, zz_.1 = .inr e → e = 0)) := by
  unfold fQ_same
  refine wp_bt (v_slotNumbered (σ := σ) (slot_0 := slot_0) hσ (by (try dsimp only) <;> first | assumption | omega | ((try simp (disch := omega) only [w32_of, w64_of, w8_of]) <;> first | assumption | omega | (split <;> omega) | (refine And.intro ?_ ?_ <;> split <;> omega)) | omega)) ?_ ?_
  · rintro x_3 σ_2 y3
    try dsimp only at y3 ⊢
    obtain ⟨g1, g2, hσ_2, flσ_2r⟩ := y3
    have flσ_2 := FC_of flσ_2r (by decide)
    have frσ_2 : FC [] [] σ σ_2 := FC_le flσ_2 (by first | decide | (rcases hE with rfl | rfl | rfl <;> decide)) (by simp)
    have g4 := g1 _ rfl
    obtain ⟨g5, g6⟩ := g4
    try simp (disch := omega) only [w32_of, w64_of, w8_of] at g5
    try simp (disch := omega) only [w32_of, w64_of, w8_of] at g6
    refine wp_ck (by first | assumption | decide | omega) ?_
    refine wp_bt (v_slotNumbered (σ := σ_2) (slot_0 := other_0) hσ_2 (by (try dsimp only) <;> first | assumption | omega | ((try simp (disch := omega) only [w32_of, w64_of, w8_of]) <;> first | assumption | omega | (split <;> omega) | (refine And.intro ?_ ?_ <;> split <;> omega)) | omega)) ?_ ?_
    · rintro x_9 σ_8 y9
      try dsimp only at y9 ⊢
      obtain ⟨g7, g8, hσ_8, flσ_8r⟩ := y9
      have flσ_8 := FC_of flσ_8r (by decide)
      have frσ_8 : FC [] [] σ σ_8 := FC_tr frσ_2 flσ_8 (by first | decide | (rcases hE with rfl | rfl | rfl <;> decide)) (by first | decide | (rcases hE with rfl | rfl | rfl <;> decide)) (by simp) (by simp)
      have g10 := g7 _ rfl
      obtain ⟨g11, g12⟩ := g10
      try simp (disch := omega) only [w32_of, w64_of, w8_of] at g11
      try simp (disch := omega) only [w32_of, w64_of, w8_of] at g12
      refine wp_ck (by first | assumption | decide | omega) ?_
      refine wp_bd (s_A_isLike (σ := σ_8) (this_0 := x_3) (other_0 := x_9) hσ_8 (by first | assumption | decide | omega) (by first | assumption | decide | omega)) ?_
      rintro x_14 - -
      exact wp_some ⟨hσ_8, frσ_8, (by (try dsimp only) <;> (intro e9 q9; first | (injection q9; done) | (injection q9 with q8; omega)))⟩
    · rintro u14 σ_8 y17
      try dsimp only at y17 ⊢
      obtain ⟨g15, g16, hσ_8, flσ_8r⟩ := y17
      have flσ_8 := FC_of flσ_8r (by decide)
      have frσ_8 : FC [] [] σ σ_8 := FC_tr frσ_2 flσ_8 (by first | decide | (rcases hE with rfl | rfl | rfl <;> decide)) (by first | decide | (rcases hE with rfl | rfl | rfl <;> decide)) (by simp) (by simp)
      have g18 := g16 _ rfl
      obtain ⟨g19, g20⟩ := g18
      try simp (disch := omega) only [w32_of, w64_of, w8_of] at g19
      try simp (disch := omega) only [w32_of, w64_of, w8_of] at g20
      exact ⟨hσ_8, frσ_8, (by (try dsimp only) <;> (intro e9 q9; first | (injection q9; done) | (injection q9 with q8; omega)))⟩
  · rintro u21 σ_2 y24
    try dsimp only at y24 ⊢
    obtain ⟨g22, g23, hσ_2, flσ_2r⟩ := y24
    have flσ_2 := FC_of flσ_2r (by decide)
    have frσ_2 : FC [] [] σ σ_2 := FC_le flσ_2 (by first | decide | (rcases hE with rfl | rfl | rfl <;> decide)) (by simp)
    have g25 := g23 _ rfl
    obtain ⟨g26, g27⟩ := g25
    try simp (disch := omega) only [w32_of, w64_of, w8_of] at g26
    try simp (disch := omega) only [w32_of, w64_of, w8_of] at g27
    exact ⟨hσ_2, frσ_2, (by (try dsimp only) <;> (intro e9 q9; first | (injection q9; done) | (injection q9 with q8; omega)))⟩
theorem s_Q_plan {σ : SG} {slot_0 : Int} {i_0 : Int} (hσ : II σ) (qslot_0 : (-2147483648) ≤ slot_0 ∧ slot_0 ≤ 2147483647) (qi_0 : (-2147483648) ≤ i_0 ∧ i_0 ≤ 2147483647) : wp_ (fQ_plan σ slot_0 i_0) (fun zz_ => II zz_.2 ∧ FC [] [] σ zz_.2 ∧ (∀ e : Nat, zz_.1 = .inr e → e = 0)) := by
  unfold fQ_plan
  refine wp_bt (v_slotNumbered (σ := σ) (slot_0 := slot_0) hσ (by (try dsimp only) <;> first | assumption | omega | ((try simp (disch := omega) only [w32_of, w64_of, w8_of]) <;> first | assumption | omega | (split <;> omega) | (refine And.intro ?_ ?_ <;> split <;> omega)) | omega)) ?_ ?_
  · rintro x_3 σ_2 y3
    try dsimp only at y3 ⊢
    obtain ⟨g1, g2, hσ_2, flσ_2r⟩ := y3
    have flσ_2 := FC_of flσ_2r (by decide)
    have frσ_2 : FC [] [] σ σ_2 := FC_le flσ_2 (by first | decide | (rcases hE with rfl | rfl | rfl <;> decide)) (by simp)
    have g4 := g1 _ rfl
    obtain ⟨g5, g6⟩ := g4
    try simp (disch := omega) only [w32_of, w64_of, w8_of] at g5
    try simp (disch := omega) only [w32_of, w64_of, w8_of] at g6
    refine wp_ck (by first | assumption | decide | omega) ?_
    have c8 := w32_rng i_0
    have c9 := iiA_plans (s := x_3) hσ_2 (by first | assumption | decide | omega) 0
    have c10 := congrFun (FC_plans (t := x_3) flσ_2 (by first | assumption | decide | omega) (NS_0 _)) 0
    have c11 := iiA_plans (s := x_3) hσ (by first | assumption | decide | omega) 0
    have c12 := w32_rng (σ_2 (kA_plans x_3) 0)
    refine wp_if (fun c7 => ?_) (fun c7 => ?_)
    · try simp (disch := omega) only [w32_of, w64_of, w8_of, decide_eq_true_eq, decide_eq_false_iff_not, Bool.not_eq_true] at c7
      exact wp_some ⟨hσ_2, frσ_2, (by (try dsimp only) <;> (intro e9 q9; first | (injection q9; done) | (injection q9 with q8; omega)))⟩
    · try simp (disch := omega) only [w32_of, w64_of, w8_of, decide_eq_true_eq, decide_eq_false_iff_not, Bool.not_eq_true] at c7
      refine wp_rdI (by (try dsimp only) <;> first | assumption | omega | ((try simp (disch := omega) only [w32_of, w64_of, w8_of]) <;> first | assumption | omega | (split <;> omega) | (refine And.intro ?_ ?_ <;> split <;> omega)) | omega) (by (try dsimp only) <;> first | assumption | omega | ((try simp (disch := omega) only [w32_of, w64_of, w8_of]) <;> first | assumption | omega | (split <;> omega) | (refine And.intro ?_ ?_ <;> split <;> omega)) | omega) (fun x_7 e_x_7 => ?_)
      rw [FC_plan (t := x_3) frσ_2 (by first | assumption | decide | omega) (NS_0 _)] at e_x_7
      try simp (disch := omega) only [w32_of, w64_of, w8_of] at e_x_7
      have c13 := congrFun (FC_plan (t := x_3) flσ_2 (by first | assumption | decide | omega) (NS_0 _)) i_0
      exact wp_some ⟨hσ_2, frσ_2, (by (try dsimp only) <;> (intro e9 q9; first | (injection q9; done) | (injection q9 with q8; omega)))⟩
  · rintro u14 σ_2 y17
    try dsimp only at y17 ⊢
    obtain ⟨g15, g16, hσ_2, flσ_2r⟩ := y17
    have flσ_2 := FC_of flσ_2r (by decide)
    have frσ_2 : FC [] [] σ σ_2 := FC_le flσ_2 (by first | decide | (rcases hE with rfl | rfl | rfl <;> decide)) (by simp)
    have g18 := g16 _ rfl
    obtain ⟨g19, g20⟩ := g18
    try simp (disch := omega) only [w32_of, w64_of, w8_of] at g19
    try simp (disch := omega) only [w32_of, w64_of, w8_of] at g20
    exact ⟨hσ_2, frσ_2, (by (try dsimp only) <;> (intro e9 q9; first | (injection q9; done) | (injection q9 with q8; omega)))⟩
theorem s_Q_ordinate {σ : SG} {slot_0 : Int} {i_0 : Int} {what_0 : Int} (hσ : II σ) (qslot_0 : (-2147483648) ≤ slot_0 ∧ slot_0 ≤ 2147483647) (qi_0 : (-2147483648) ≤ i_0 ∧ i_0 ≤ 2147483647) (qwhat_0 : (-2147483648) ≤ what_0 ∧ what_0 ≤ 2147483647) : wp_ (fQ_ordinate σ slot_0 i_0 what_0) (fun zz_ => II zz_.2 ∧ FC [] [] σ zz_.2 ∧ (∀ e : Nat, zz_.1 = .inr e → e = 0)) := by
  unfold fQ_ordinate
  refine wp_bt (v_slotNumbered (σ := σ) (slot_0 := slot_0) hσ (by (try dsimp only) <;> first | assumption | omega | ((try simp (disch := omega) only [w32_of, w64_of, w8_of]) <;> first | assumption | omega | (split <;> omega) | (refine And.intro ?_ ?_ <;> split <;> omega)) | omega)) ?_ ?_
  · rintro x_3 σ_2 y3
    try dsimp only at y3 ⊢
    obtain ⟨g1, g2, hσ_2, flσ_2r⟩ := y3
    have flσ_2 := FC_of flσ_2r (by decide)
    have frσ_2 : FC [] [] σ σ_2 := FC_le flσ_2 (by first | decide | (rcases hE with rfl | rfl | rfl <;> decide)) (by simp)
    have g4 := g1 _ rfl
    obtain ⟨g5, g6⟩ := g4
    try simp (disch := omega) only [w32_of, w64_of, w8_of] at g5
    try simp (disch := omega) only [w32_of, w64_of, w8_of] at g6
    refine wp_ck (by first | assumption | decide | omega) ?_
    have c8 := w32_rng i_0
    have c9 := iiA_points (s := x_3) hσ_2 (by first | assumption | decide | omega) 0
    have c10 := congrFun (FC_points (t := x_3) flσ_2 (by first | assumption | decide | omega) (NS_0 _)) 0
    have c11 := iiA_points (s := x_3) hσ (by first | assumption | decide | omega) 0
    have c12 := w32_rng (σ_2 (kA_points x_3) 0)
    have c13 := w32_rng what_0
    refine wp_if (fun c7 => ?_) (fun c7 => ?_)
    · try simp (disch := omega) only [w32_of, w64_of, w8_of, decide_eq_true_eq, decide_eq_false_iff_not, Bool.not_eq_true] at c7
      exact wp_some ⟨hσ_2, frσ_2, (by (try dsimp only) <;> (intro e9 q9; first | (injection q9; done) | (injection q9 with q8; omega)))⟩
    · try simp (disch := omega) only [w32_of, w64_of, w8_of, decide_eq_true_eq, decide_eq_false_iff_not, Bool.not_eq_true] at c7
      refine wp_bd (P := fun rr_ => (True)) ?_ ?_
      · refine wp_if (fun c14 => ?_) (fun c14 => ?_)
        · try simp (disch := omega) only [w32_of, w64_of, w8_of, decide_eq_true_eq, decide_eq_false_iff_not, Bool.not_eq_true] at c14
          refine wp_rdI (by (try dsimp only) <;> first | assumption | omega | ((try simp (disch := omega) only [w32_of, w64_of, w8_of]) <;> first | assumption | omega | (split <;> omega) | (refine And.intro ?_ ?_ <;> split <;> omega)) | omega) (by (try dsimp only) <;> first | assumption | omega | ((try simp (disch := omega) only [w32_of, w64_of, w8_of]) <;> first | assumption | omega | (split <;> omega) | (refine And.intro ?_ ?_ <;> split <;> omega)) | omega) (fun x_12 e_x_12 => ?_)
          have b_x_12 : (-1000000000) ≤ x_12 ∧ x_12 ≤ 1000000000 := by rw [e_x_12]; exact iiA_x (s := x_3) hσ_2 (by first | assumption | decide | omega) _
          rw [FC_x (t := x_3) frσ_2 (by first | assumption | decide | omega) (NS_0 _)] at e_x_12
          try simp (disch := omega) only [w32_of, w64_of, w8_of] at e_x_12
          have c15 := iiA_x (s := x_3) hσ_2 (by first | assumption | decide | omega) i_0
          have c16 := congrFun (FC_x (t := x_3) flσ_2 (by first | assumption | decide | omega) (NS_0 _)) i_0
          have c17 := iiA_x (s := x_3) hσ (by first | assumption | decide | omega) i_0
          exact wp_some (by (try dsimp only) <;> first | assumption | omega | ((try simp (disch := omega) only [w32_of, w64_of, w8_of]) <;> first | assumption | omega | (split <;> omega) | (refine And.intro ?_ ?_ <;> split <;> omega)) | omega)
        · try simp (disch := omega) only [w32_of, w64_of, w8_of, decide_eq_true_eq, decide_eq_false_iff_not, Bool.not_eq_true] at c14
          refine wp_rdI (by (try dsimp only) <;> first | assumption | omega | ((try simp (disch := omega) only [w32_of, w64_of, w8_of]) <;> first | assumption | omega | (split <;> omega) | (refine And.intro ?_ ?_ <;> split <;> omega)) | omega) (by (try dsimp only) <;> first | assumption | omega | ((try simp (disch := omega) only [w32_of, w64_of, w8_of]) <;> first | assumption | omega | (split <;> omega) | (refine And.intro ?_ ?_ <;> split <;> omega)) | omega) (fun x_15 e_x_15 => ?_)
          have b_x_15 : (-1000000000) ≤ x_15 ∧ x_15 ≤ 1000000000 := by rw [e_x_15]; exact iiA_y (s := x_3) hσ_2 (by first | assumption | decide | omega) _
          rw [FC_y (t := x_3) frσ_2 (by first | assumption | decide | omega) (NS_0 _)] at e_x_15
          try simp (disch := omega) only [w32_of, w64_of, w8_of] at e_x_15
          have c18 := iiA_y (s := x_3) hσ_2 (by first | assumption | decide | omega) i_0
          have c19 := congrFun (FC_y (t := x_3) flσ_2 (by first | assumption | decide | omega) (NS_0 _)) i_0
          have c20 := iiA_y (s := x_3) hσ (by first | assumption | decide | omega) i_0
          exact wp_some (by (try dsimp only) <;> first | assumption | omega | ((try simp (disch := omega) only [w32_of, w64_of, w8_of]) <;> first | assumption | omega | (split <;> omega) | (refine And.intro ?_ ?_ <;> split <;> omega)) | omega)
      rintro x_18 _ g21
      exact wp_some ⟨hσ_2, frσ_2, (by (try dsimp only) <;> (intro e9 q9; first | (injection q9; done) | (injection q9 with q8; omega)))⟩
  · rintro u22 σ_2 y25
    try dsimp only at y25 ⊢
    obtain ⟨g23, g24, hσ_2, flσ_2r⟩ := y25
    have flσ_2 := FC_of flσ_2r (by decide)
    have frσ_2 : FC [] [] σ σ_2 := FC_le flσ_2 (by first | decide | (rcases hE with rfl | rfl | rfl <;> decide)) (by simp)
    have g26 := g24 _ rfl
    obtain ⟨g27, g28⟩ := g26
    try simp (disch := omega) only [w32_of, w64_of, w8_of] at g27
    try simp (disch := omega) only [w32_of, w64_of, w8_of] at g28
    exact ⟨hσ_2, frσ_2, (by (try dsimp only) <;> (intro e9 q9; first | (injection q9; done) | (injection q9 with q8; omega)))⟩
theorem s_Q_count {σ : SG} {slot_0 : Int} {what_0 : Int} (hσ : II σ) (qslot_0 : (-2147483648) ≤ slot_0 ∧ slot_0 ≤ 2147483647) (qwhat_0 : (-2147483648) ≤ what_0 ∧ what_0 ≤ 2147483647) : wp_ (fQ_count σ slot_0 what_0) (fun zz_ => II zz_.2 ∧ FC [] [] σ zz_.2 ∧ (∀ e : Nat, zz_.1 = .inr e → e = 0)) := by
  unfold fQ_count
  refine wp_bt (v_slotNumbered (σ := σ) (slot_0 := slot_0) hσ (by (try dsimp only) <;> first | assumption | omega | ((try simp (disch := omega) only [w32_of, w64_of, w8_of]) <;> first | assumption | omega | (split <;> omega) | (refine And.intro ?_ ?_ <;> split <;> omega)) | omega)) ?_ ?_
  · rintro x_3 σ_2 y3
    try dsimp only at y3 ⊢
    obtain ⟨g1, g2, hσ_2, flσ_2r⟩ := y3
    have flσ_2 := FC_of flσ_2r (by decide)
    have frσ_2 : FC [] [] σ σ_2 := FC_le flσ_2 (by first | decide | (rcases hE with rfl | rfl | rfl <;> decide)) (by simp)
    have g4 := g1 _ rfl
    obtain ⟨g5, g6⟩ := g4
    try simp (disch := omega) only [w32_of, w64_of, w8_of] at g5
    try simp (disch := omega) only [w32_of, w64_of, w8_of] at g6
    refine wp_ck (by first | assumption | decide | omega) ?_
    have c8 := w32_rng what_0
    refine wp_if (fun c7 => ?_) (fun c7 => ?_)
    · try simp (disch := omega) only [w32_of, w64_of, w8_of, decide_eq_true_eq, decide_eq_false_iff_not, Bool.not_eq_true] at c7
      have c9 := iiA_plans (s := x_3) hσ_2 (by first | assumption | decide | omega) 0
      have c10 := congrFun (FC_plans (t := x_3) flσ_2 (by first | assumption | decide | omega) (NS_0 _)) 0
      have c11 := iiA_plans (s := x_3) hσ (by first | assumption | decide | omega) 0
      exact wp_some ⟨hσ_2, frσ_2, (by (try dsimp only) <;> (intro e9 q9; first | (injection q9; done) | (injection q9 with q8; omega)))⟩
    · try simp (disch := omega) only [w32_of, w64_of, w8_of, decide_eq_true_eq, decide_eq_false_iff_not, Bool.not_eq_true] at c7
      refine wp_if (fun c12 => ?_) (fun c12 => ?_)
      · try simp (disch := omega) only [w32_of, w64_of, w8_of, decide_eq_true_eq, decide_eq_false_iff_not, Bool.not_eq_true] at c12
        have c13 := iiA_points (s := x_3) hσ_2 (by first | assumption | decide | omega) 0
        have c14 := congrFun (FC_points (t := x_3) flσ_2 (by first | assumption | decide | omega) (NS_0 _)) 0
        have c15 := iiA_points (s := x_3) hσ (by first | assumption | decide | omega) 0
        exact wp_some ⟨hσ_2, frσ_2, (by (try dsimp only) <;> (intro e9 q9; first | (injection q9; done) | (injection q9 with q8; omega)))⟩
      · try simp (disch := omega) only [w32_of, w64_of, w8_of, decide_eq_true_eq, decide_eq_false_iff_not, Bool.not_eq_true] at c12
        refine wp_if (fun c16 => ?_) (fun c16 => ?_)
        · try simp (disch := omega) only [w32_of, w64_of, w8_of, decide_eq_true_eq, decide_eq_false_iff_not, Bool.not_eq_true] at c16
          have c17 := ii_kQ_tapeSize hσ_2 0
          have c18 := FC_at flσ_2 (c := kQ_tapeSize) (by first | decide | (rcases hE with rfl | rfl | rfl <;> decide)) 0
          have c19 := ii_kQ_tapeSize hσ 0
          exact wp_some ⟨hσ_2, frσ_2, (by (try dsimp only) <;> (intro e9 q9; first | (injection q9; done) | (injection q9 with q8; omega)))⟩
        · try simp (disch := omega) only [w32_of, w64_of, w8_of, decide_eq_true_eq, decide_eq_false_iff_not, Bool.not_eq_true] at c16
          refine wp_if (fun c20 => ?_) (fun c20 => ?_)
          · try simp (disch := omega) only [w32_of, w64_of, w8_of, decide_eq_true_eq, decide_eq_false_iff_not, Bool.not_eq_true] at c20
            have c21 := ii_kO_size hσ_2 0
            have c22 := FC_at flσ_2 (c := kO_size) (by first | decide | (rcases hE with rfl | rfl | rfl <;> decide)) 0
            have c23 := ii_kO_size hσ 0
            exact wp_some ⟨hσ_2, frσ_2, (by (try dsimp only) <;> (intro e9 q9; first | (injection q9; done) | (injection q9 with q8; omega)))⟩
          · try simp (disch := omega) only [w32_of, w64_of, w8_of, decide_eq_true_eq, decide_eq_false_iff_not, Bool.not_eq_true] at c20
            refine wp_if (fun c24 => ?_) (fun c24 => ?_)
            · try simp (disch := omega) only [w32_of, w64_of, w8_of, decide_eq_true_eq, decide_eq_false_iff_not, Bool.not_eq_true] at c24
              refine wp_bd (s_Q_slotsWithShapes (σ := σ_2) hσ_2) ?_
              rintro x_13 - -
              exact wp_some ⟨hσ_2, frσ_2, (by (try dsimp only) <;> (intro e9 q9; first | (injection q9; done) | (injection q9 with q8; omega)))⟩
            · try simp (disch := omega) only [w32_of, w64_of, w8_of, decide_eq_true_eq, decide_eq_false_iff_not, Bool.not_eq_true] at c24
              refine wp_if (fun c26 => ?_) (fun c26 => ?_)
              · try simp (disch := omega) only [w32_of, w64_of, w8_of, decide_eq_true_eq, decide_eq_false_iff_not, Bool.not_eq_true] at c26
                have c27 := ii_kQ_foundCount hσ_2 0
                have c28 := FC_at flσ_2 (c := kQ_foundCount) (by first | decide | (rcases hE with rfl | rfl | rfl <;> decide)) 0
                have c29 := ii_kQ_foundCount hσ 0
                exact wp_some ⟨hσ_2, frσ_2, (by (try dsimp only) <;> (intro e9 q9; first | (injection q9; done) | (injection q9 with q8; omega)))⟩
              · try simp (disch := omega) only [w32_of, w64_of, w8_of, decide_eq_true_eq, decide_eq_false_iff_not, Bool.not_eq_true] at c26
                exact wp_some ⟨hσ_2, frσ_2, (by (try dsimp only) <;> (intro e9 q9; first | (injection q9; done) | (injection q9 with q8; omega)))⟩
  · rintro u30 σ_2 y33
    try dsimp only at y33 ⊢
    obtain ⟨g31, g32, hσ_2, flσ_2r⟩ := y33
    have flσ_2 := FC_of flσ_2r (by decide)
    have frσ_2 : FC [] [] σ σ_2 := FC_le flσ_2 (by first | decide | (rcases hE with rfl | rfl | rfl <;> decide)) (by simp)
    have g34 := g32 _ rfl
    obtain ⟨g35, g36⟩ := g34
    try simp (disch := omega) only [w32_of, w64_of, w8_of] at g35
    try simp (disch := omega) only [w32_of, w64_of, w8_of] at g36
    exact ⟨hσ_2, frσ_2, (by (try dsimp only) <;> (intro e9 q9; first | (injection q9; done) | (injection q9 with q8; omega)))⟩
theorem s_Q_judge {σ : SG} {slot_0 : Int} (hσ : II σ) (qslot_0 : (-2147483648) ≤ slot_0 ∧ slot_0 ≤ 2147483647) (w0 : SHA σ) : wp_ (fQ_judge σ slot_0) (fun zz_ => II zz_.2 ∧ FC [46080, 46336, 46592, 46848, 47104, (kE_size 179), (kE_placeX 179), (kE_placeY 179), kJ_joined, kJ_number, kJ_partBegin, kJ_partEnd, kJ_place, kJ_ringBegin, kJ_ringEnd, kJ_ringNumber, kJ_ringPart, kJ_rings] [] σ zz_.2 ∧ (∀ e : Nat, zz_.1 = .inr e → e = 0 ∨ e = 1)) := by
  unfold fQ_judge
  refine wp_bt (v_slotNumbered (σ := σ) (slot_0 := slot_0) hσ (by (try dsimp only) <;> first | assumption | omega | ((try simp (disch := omega) only [w32_of, w64_of, w8_of]) <;> first | assumption | omega | (split <;> omega) | (refine And.intro ?_ ?_ <;> split <;> omega)) | omega)) ?_ ?_
  · rintro x_3 σ_2 y3
    try dsimp only at y3 ⊢
    obtain ⟨g1, g2, hσ_2, flσ_2r⟩ := y3
    have flσ_2 := FC_of flσ_2r (by decide)
    have frσ_2 : FC [46080, 46336, 46592, 46848, 47104, (kE_size 179), (kE_placeX 179), (kE_placeY 179), kJ_joined, kJ_number, kJ_partBegin, kJ_partEnd, kJ_place, kJ_ringBegin, kJ_ringEnd, kJ_ringNumber, kJ_ringPart, kJ_rings] [] σ σ_2 := FC_le flσ_2 (by first | decide | (rcases hE with rfl | rfl | rfl <;> decide)) (by simp)
    have g4 := g1 _ rfl
    obtain ⟨g5, g6⟩ := g4
    try simp (disch := omega) only [w32_of, w64_of, w8_of] at g5
    try simp (disch := omega) only [w32_of, w64_of, w8_of] at g6
    refine wp_ck (by first | assumption | decide | omega) ?_
    refine wp_bt (s_Q_mustBeThere (σ := σ_2) (shape_0 := x_3) hσ_2) ?_ ?_
    · rintro u7 σ_8 y9
      try dsimp only at y9 ⊢
      obtain ⟨g8, hσ_8, flσ_8r⟩ := y9
      have flσ_8 := FC_of flσ_8r (by decide)
      have frσ_8 : FC [46080, 46336, 46592, 46848, 47104, (kE_size 179), (kE_placeX 179), (kE_placeY 179), kJ_joined, kJ_number, kJ_partBegin, kJ_partEnd, kJ_place, kJ_ringBegin, kJ_ringEnd, kJ_ringNumber, kJ_ringPart, kJ_rings] [] σ σ_8 := FC_tr frσ_2 flσ_8 (by first | decide | (rcases hE with rfl | rfl | rfl <;> decide)) (by first | decide | (rcases hE with rfl | rfl | rfl <;> decide)) (by simp) (by simp)
      refine wp_bd (s_J_firstFault (σ := σ_8) (shape_0 := x_3) hσ_8 (by first | assumption | decide | omega) (by exact SHA_f frσ_8 w0 x_3 (by assumption) (by assumption))) ?_
      rintro ⟨x_14, σ_13⟩ - y11
      try dsimp only at y11 ⊢
      obtain ⟨hσ_13, flσ_13, g10⟩ := y11
      have frσ_13 : FC [46080, 46336, 46592, 46848, 47104, (kE_size 179), (kE_placeX 179), (kE_placeY 179), kJ_joined, kJ_number, kJ_partBegin, kJ_partEnd, kJ_place, kJ_ringBegin, kJ_ringEnd, kJ_ringNumber, kJ_ringPart, kJ_rings] [] σ σ_13 := FC_tr frσ_8 flσ_13 (by first | decide | (rcases hE with rfl | rfl | rfl <;> decide)) (by first | decide | (rcases hE with rfl | rfl | rfl <;> decide)) (by simp) (by simp)
      try simp (disch := omega) only [w32_of, w64_of, w8_of] at g10
      exact wp_some ⟨hσ_13, frσ_13, (by (try dsimp only) <;> (intro e9 q9; first | (injection q9; done) | (injection q9 with q8; omega)))⟩
    · rintro u12 σ_8 y14
      try dsimp only at y14 ⊢
      obtain ⟨g13, hσ_8, flσ_8r⟩ := y14
      have flσ_8 := FC_of flσ_8r (by decide)
      have frσ_8 : FC [46080, 46336, 46592, 46848, 47104, (kE_size 179), (kE_placeX 179), (kE_placeY 179), kJ_joined, kJ_number, kJ_partBegin, kJ_partEnd, kJ_place, kJ_ringBegin, kJ_ringEnd, kJ_ringNumber, kJ_ringPart, kJ_rings] [] σ σ_8 := FC_tr frσ_2 flσ_8 (by first | decide | (rcases hE with rfl | rfl | rfl <;> decide)) (by first | decide | (rcases hE with rfl | rfl | rfl <;> decide)) (by simp) (by simp)
      have g15 := g13 _ rfl
      obtain ⟨g16, g17⟩ := g15
      try simp (disch := omega) only [w32_of, w64_of, w8_of] at g16
      try simp (disch := omega) only [w32_of, w64_of, w8_of] at g17
      exact ⟨hσ_8, frσ_8, (by (try dsimp only) <;> (intro e9 q9; first | (injection q9; done) | (injection q9 with q8; omega)))⟩
  · rintro u18 σ_2 y21
    try dsimp only at y21 ⊢
    obtain ⟨g19, g20, hσ_2, flσ_2r⟩ := y21
    have flσ_2 := FC_of flσ_2r (by decide)
    have frσ_2 : FC [46080, 46336, 46592, 46848, 47104, (kE_size 179), (kE_placeX 179), (kE_placeY 179), kJ_joined, kJ_number, kJ_partBegin, kJ_partEnd, kJ_place, kJ_ringBegin, kJ_ringEnd, kJ_ringNumber, kJ_ringPart, kJ_rings] [] σ σ_2 := FC_le flσ_2 (by first | decide | (rcases hE with rfl | rfl | rfl <;> decide)) (by simp)
    have g22 := g20 _ rfl
    obtain ⟨g23, g24⟩ := g22
    try simp (disch := omega) only [w32_of, w64_of, w8_of] at g23
    try simp (disch := omega) only [w32_of, w64_of, w8_of] at g24
    exact ⟨hσ_2, frσ_2, (by (try dsimp only) <;> (intro e9 q9; first | (injection q9; done) | (injection q9 with q8; omega)))⟩
theorem s_Q_canBeLaidOver {σ : SG} {shape_0 : Nat} (hσ : II σ) (hs_shape_0 : isS shape_0) (w0 : SHa σ shape_0) : wp_ (fQ_canBeLaidOver σ shape_0) (fun zz_ => ((zz_ = true) → (SNs σ shape_0))) := by
  unfold fQ_canBeLaidOver
  have hpl := iiA_plans hσ hs_shape_0 0
  have hpt := iiA_points hσ hs_shape_0 0
  refine wp_bd (s_A_kind (σ := σ) (this_0 := shape_0) hσ (by first | assumption | decide | omega)) ?_
  rintro x_2 - g1
  have c2 := iiA_plans (s := shape_0) hσ (by first | assumption | decide | omega) 0
  try simp (disch := omega) only [w32_of, w64_of, w8_of] at g1
  refine wp_bd (P := fun rr_ => ((rr_ = false) → (SNs σ shape_0))) ?_ ?_
  · have c4 := w32_rng x_2
    refine wp_if (fun c3 => ?_) (fun c3 => ?_)
    · try simp (disch := omega) only [w32_of, w64_of, w8_of, decide_eq_true_eq, decide_eq_false_iff_not, Bool.not_eq_true] at c3
      refine wp_if (fun c5 => ?_) (fun c5 => ?_)
      · try simp (disch := omega) only [w32_of, w64_of, w8_of, decide_eq_true_eq, decide_eq_false_iff_not, Bool.not_eq_true] at c5
        exact wp_some (fun q => (by cases q))
      · try simp (disch := omega) only [w32_of, w64_of, w8_of, decide_eq_true_eq, decide_eq_false_iff_not, Bool.not_eq_true] at c5
        refine wp_bd (s_A_liesWithin (σ := σ) (this_0 := shape_0) (limit_0 := 500000000) hσ (by first | assumption | decide | omega) (by (try dsimp only) <;> first | assumption | omega | ((try simp (disch := omega) only [w32_of, w64_of, w8_of]) <;> first | assumption | omega | (split <;> omega) | (refine And.intro ?_ ?_ <;> split <;> omega)) | omega)) ?_
        rintro x_59 - hlw
        have c6 := iiA_points (s := shape_0) hσ (by first | assumption | decide | omega) 0
        try simp (disch := omega) only [w32_of, w64_of, w8_of] at hlw
        refine wp_if (fun c7 => ?_) (fun c7 => ?_)
        · have k8 := hlw c7
          try simp (disch := omega) only [w32_of, w64_of, w8_of] at k8
          try simp (disch := omega) only [w32_of, w64_of, w8_of, decide_eq_true_eq, decide_eq_false_iff_not, Bool.not_eq_true] at c7
          exact wp_some (by (try dsimp only) <;> (intro q9; first | exact absurd q9 (by decide) | exact hlw (by assumption)))
        · try simp (disch := omega) only [w32_of, w64_of, w8_of, decide_eq_true_eq, decide_eq_false_iff_not, Bool.not_eq_true] at c7
          exact wp_some (fun q => (by cases q))
    · try simp (disch := omega) only [w32_of, w64_of, w8_of, decide_eq_true_eq, decide_eq_false_iff_not, Bool.not_eq_true] at c3
      refine wp_bd (s_A_liesWithin (σ := σ) (this_0 := shape_0) (limit_0 := 500000000) hσ (by first | assumption | decide | omega) (by (try dsimp only) <;> first | assumption | omega | ((try simp (disch := omega) only [w32_of, w64_of, w8_of]) <;> first | assumption | omega | (split <;> omega) | (refine And.intro ?_ ?_ <;> split <;> omega)) | omega)) ?_
      rintro x_64 - hlw
      have c10 := iiA_points (s := shape_0) hσ (by first | assumption | decide | omega) 0
      try simp (disch := omega) only [w32_of, w64_of, w8_of] at hlw
      refine wp_if (fun c11 => ?_) (fun c11 => ?_)
      · have k12 := hlw c11
        try simp (disch := omega) only [w32_of, w64_of, w8_of] at k12
        try simp (disch := omega) only [w32_of, w64_of, w8_of, decide_eq_true_eq, decide_eq_false_iff_not, Bool.not_eq_true] at c11
        exact wp_some (by (try dsimp only) <;> (intro q9; first | exact absurd q9 (by decide) | exact hlw (by assumption)))
      · try simp (disch := omega) only [w32_of, w64_of, w8_of, decide_eq_true_eq, decide_eq_false_iff_not, Bool.not_eq_true] at c11
        exact wp_some (fun q => (by cases q))
  rintro b_68 _ hsn
  refine wp_if (fun c14 => ?_) (fun c14 => ?_)
  · try simp (disch := omega) only [w32_of, w64_of, w8_of, decide_eq_true_eq, decide_eq_false_iff_not, Bool.not_eq_true] at c14
    exact wp_some (fun q => (by cases q))
  · have k16 := hsn (Bool.eq_false_iff.mpr c14)
    try simp (disch := omega) only [w32_of, w64_of, w8_of] at k16
    try simp (disch := omega) only [w32_of, w64_of, w8_of, decide_eq_true_eq, decide_eq_false_iff_not, Bool.not_eq_true] at c14
    refine wp_bx (P := fun rr_ => (True)) ?_ ?_
    · refine wp_whl (fun ss_ => (FLa σ shape_0 ss_.2 ss_.1)) (fun ss_ => (2048 - ss_.2).toNat) (by (try dsimp only) <;> (first | exact FLa_0 w0 | (rw [hbh, hfe]; exact hn))) ?_
      rintro ⟨from_69, at_70⟩ y17
      try dsimp only at y17 ⊢
      have gw := y17
      have hle := FLa_le gw
      have c19 := w32_rng (at_70 + 1)
      have c20 := w32_rng (σ (kA_plans shape_0) 0)
      refine wp_if (fun c18 => ?_) (fun c18 => ?_)
      · try simp (disch := omega) only [w32_of, w64_of, w8_of, decide_eq_true_eq, decide_eq_false_iff_not, Bool.not_eq_true] at c18
        obtain ⟨he, hn, h2, h3, h4, h5, h6⟩ := FLa_hd hσ hs_shape_0 gw (by omega)
        obtain ⟨ho, -, -, -⟩ := id he
        have hRe := rS_end ho
        refine wp_bx (P := fun rr_ => (rr_.1 = from_69 + eP (σ (kA_plan shape_0)) at_70)) ?_ ?_
        · refine wp_whl (fun ss_ => (0 ≤ ss_.2 ∧ ss_.2 ≤ rN (σ (kA_plan shape_0)) at_70) ∧ (ss_.1 = from_69 + rS (σ (kA_plan shape_0)) at_70 ss_.2)) (fun ss_ => (rN (σ (kA_plan shape_0)) at_70 - ss_.2).toNat) ⟨(by (try dsimp only) <;> first | assumption | omega | ((try simp (disch := omega) only [w32_of, w64_of, w8_of]) <;> first | assumption | omega | (split <;> omega) | (refine And.intro ?_ ?_ <;> split <;> omega)) | omega), (by (try dsimp only) <;> (first | (rw [rS_0]; omega) | omega))⟩ ?_
          rintro ⟨from_79, row_80⟩ y22
          try dsimp only at y22 ⊢
          obtain ⟨g21, hfr⟩ := y22
          refine wp_bd (s_A_rows (σ := σ) (this_0 := shape_0) (at_0 := at_70) hσ (by first | assumption | decide | omega) he) ?_
          rintro x_89 - ⟨hrw, hrx⟩
          try simp (disch := omega) only [w32_of, w64_of, w8_of] at hrw
          try simp (disch := omega) only [w32_of, w64_of, w8_of] at hrx
          have c24 := w32_rng row_80
          have c25 := w32_rng x_89
          refine wp_if (fun c23 => ?_) (fun c23 => ?_)
          · try simp (disch := omega) only [w32_of, w64_of, w8_of, decide_eq_true_eq, decide_eq_false_iff_not, Bool.not_eq_true] at c23
            have hg := rS_go ho (show 0 ≤ row_80 by omega) (by omega)
            refine wp_bd (s_A_rowLength (σ := σ) (this_0 := shape_0) (at_0 := at_70) (row_0 := row_80) hσ (by first | assumption | decide | omega) he (by (try dsimp only) <;> first | assumption | omega | ((try simp (disch := omega) only [w32_of, w64_of, w8_of]) <;> first | assumption | omega | (split <;> omega) | (refine And.intro ?_ ?_ <;> split <;> omega)) | omega)) ?_
            rintro x_92 - ⟨hrl, hrm⟩
            try simp (disch := omega) only [w32_of, w64_of, w8_of] at hrl
            try simp (disch := omega) only [w32_of, w64_of, w8_of] at hrm
            refine wp_bd (s_A_isClosed (σ := σ) (this_0 := shape_0) (from_0 := from_79) (length_0 := x_92) hσ (by first | assumption | decide | omega) (by (try dsimp only) <;> first | assumption | omega | ((try simp (disch := omega) only [w32_of, w64_of, w8_of]) <;> first | assumption | omega | (split <;> omega) | (refine And.intro ?_ ?_ <;> split <;> omega)) | omega) (by (try dsimp only) <;> first | assumption | omega | ((try simp (disch := omega) only [w32_of, w64_of, w8_of]) <;> first | assumption | omega | (split <;> omega) | (refine And.intro ?_ ?_ <;> split <;> omega)) | omega)) ?_
            rintro x_94 - g26
            have c27 := iiA_x (s := shape_0) hσ (by first | assumption | decide | omega) from_79
            have c28 := iiA_x (s := shape_0) hσ (by first | assumption | decide | omega) (from_79 + x_92 - 1)
            have c29 := iiA_y (s := shape_0) hσ (by first | assumption | decide | omega) from_79
            have c30 := iiA_y (s := shape_0) hσ (by first | assumption | decide | omega) (from_79 + x_92 - 1)
            try simp (disch := omega) only [w32_of, w64_of, w8_of] at g26
            refine wp_if (fun c31 => ?_) (fun c31 => ?_)
            · have k32 := g26.mp c31
              try simp (disch := omega) only [w32_of, w64_of, w8_of] at k32
              try simp (disch := omega) only [w32_of, w64_of, w8_of, decide_eq_true_eq, decide_eq_false_iff_not, Bool.not_eq_true] at c31
              exact wp_some (x_inl ⟨⟨(by (try dsimp only) <;> first | assumption | omega | ((try simp (disch := omega) only [w32_of, w64_of, w8_of]) <;> first | assumption | omega | (split <;> omega) | (refine And.intro ?_ ?_ <;> split <;> omega)) | omega), (by (try dsimp only) <;> (first | (rw [rS_0]; omega) | omega))⟩, (by (try dsimp only) <;> first | assumption | omega | ((try simp (disch := omega) only [w32_of, w64_of, w8_of]) <;> first | assumption | omega | (split <;> omega) | (refine And.intro ?_ ?_ <;> split <;> omega)) | omega)⟩)
            · have k33 := fun q => c31 (g26.mpr q)
              try simp (disch := omega) only [w32_of, w64_of, w8_of] at k33
              try simp (disch := omega) only [w32_of, w64_of, w8_of, decide_eq_true_eq, decide_eq_false_iff_not, Bool.not_eq_true] at c31
              exact wp_some (x_inr (x_inr (x_inr (x_inr (fun q => (by cases q))))))
          · try simp (disch := omega) only [w32_of, w64_of, w8_of, decide_eq_true_eq, decide_eq_false_iff_not, Bool.not_eq_true] at c23
            have hz : row_80 = rN (σ (kA_plan shape_0)) at_70 := by omega
            rw [hz, hRe.1] at hfr
            exact wp_some (x_inr (x_inl (by (try dsimp only) <;> (omega))))
        rintro ⟨from_98, row_99⟩ y34
        try dsimp only at y34 ⊢
        have hfe := y34
        refine wp_bd (s_A_behind (σ := σ) (this_0 := shape_0) (at_0 := at_70) hσ (by first | assumption | decide | omega) he) ?_
        rintro x_101 - hbh
        try simp (disch := omega) only [w32_of, w64_of, w8_of] at hbh
        exact wp_some (x_inl ⟨(by (try dsimp only) <;> (first | exact FLa_0 w0 | (rw [hbh, hfe]; exact hn))), (by (try dsimp only) <;> first | assumption | omega | ((try simp (disch := omega) only [w32_of, w64_of, w8_of]) <;> first | assumption | omega | (split <;> omega) | (refine And.intro ?_ ?_ <;> split <;> omega)) | omega)⟩)
      · try simp (disch := omega) only [w32_of, w64_of, w8_of, decide_eq_true_eq, decide_eq_false_iff_not, Bool.not_eq_true] at c18
        exact wp_some (x_inr (x_inl (by (try dsimp only) <;> first | assumption | omega | ((try simp (disch := omega) only [w32_of, w64_of, w8_of]) <;> first | assumption | omega | (split <;> omega) | (refine And.intro ?_ ?_ <;> split <;> omega)) | omega)))
    rintro ⟨from_105, at_106⟩ y36
    try dsimp only at y36 ⊢
    have g35 := y36
    exact wp_some (by (try dsimp only) <;> (intro q9; first | exact absurd q9 (by decide) | exact hsn (by first | assumption | exact Bool.eq_false_iff.mpr (by assumption))))
theorem s_Q_overlay {σ : SG} {what_0 : Int} {slot_0 : Int} {other_0 : Int} {to_0 : Int} (hσ : II σ) (qwhat_0 : (-2147483648) ≤ what_0 ∧ what_0 ≤ 2147483647) (qslot_0 : (-2147483648) ≤ slot_0 ∧ slot_0 ≤ 2147483647) (qother_0 : (-2147483648) ≤ other_0 ∧ other_0 ≤ 2147483647) (qto_0 : (-2147483648) ≤ to_0 ∧ to_0 ≤ 2147483647) (w0 : SHA σ) : wp_ (fQ_overlay σ what_0 slot_0 other_0 to_0) (fun zz_ => II zz_.2 ∧ FC [49920, 50176, 50432, 50688, 50944, (kE_size 194), (kE_placeX 194), (kE_placeY 194), kG_above, kG_active, kG_actives, kG_begin, kG_corner, kG_corners, kG_goesBack, kG_incident, kG_isBoundary, kG_onPath, kG_order, kG_path, kG_ringArea, kG_ringBegin, kG_rings, kG_shellOf, kN_chain, kN_hot, kN_hotX, kN_hotY, kN_keyCount, kN_keys, kN_lengthless, kN_order, kN_pieceFrom, kN_pieceMask, kN_pieceTo, kN_pieces] allS σ zz_.2 ∧ (SHA zz_.2) ∧ (∀ e : Nat, zz_.1 = .inr e → e = 0 ∨ e = 1 ∨ e = 2 ∨ e = 3)) := by
  unfold fQ_overlay
  refine wp_bt (v_slotNumbered (σ := σ) (slot_0 := slot_0) hσ (by (try dsimp only) <;> first | assumption | omega | ((try simp (disch := omega) only [w32_of, w64_of, w8_of]) <;> first | assumption | omega | (split <;> omega) | (refine And.intro ?_ ?_ <;> split <;> omega)) | omega)) ?_ ?_
  · rintro x_3 σ_2 y3
    try dsimp only at y3 ⊢
    obtain ⟨g1, g2, hσ_2, flσ_2r⟩ := y3
    have flσ_2 := FC_of flσ_2r (by decide)
    have frσ_2 : FC [49920, 50176, 50432, 50688, 50944, (kE_size 194), (kE_placeX 194), (kE_placeY 194), kG_above, kG_active, kG_actives, kG_begin, kG_corner, kG_corners, kG_goesBack, kG_incident, kG_isBoundary, kG_onPath, kG_order, kG_path, kG_ringArea, kG_ringBegin, kG_rings, kG_shellOf, kN_chain, kN_hot, kN_hotX, kN_hotY, kN_keyCount, kN_keys, kN_lengthless, kN_order, kN_pieceFrom, kN_pieceMask, kN_pieceTo, kN_pieces] allS σ σ_2 := FC_le flσ_2 (by first | decide | (rcases hE with rfl | rfl | rfl <;> decide)) (by first | exact allS_1 (by first | assumption | decide) | exact allS_h | exact allS_0)
    have g4 := g1 _ rfl
    obtain ⟨g5, g6⟩ := g4
    try simp (disch := omega) only [w32_of, w64_of, w8_of] at g5
    try simp (disch := omega) only [w32_of, w64_of, w8_of] at g6
    refine wp_ck (by first | assumption | decide | omega) ?_
    refine wp_bt (v_slotNumbered (σ := σ_2) (slot_0 := other_0) hσ_2 (by (try dsimp only) <;> first | assumption | omega | ((try simp (disch := omega) only [w32_of, w64_of, w8_of]) <;> first | assumption | omega | (split <;> omega) | (refine And.intro ?_ ?_ <;> split <;> omega)) | omega)) ?_ ?_
    · rintro x_9 σ_8 y9
      try dsimp only at y9 ⊢
      obtain ⟨g7, g8, hσ_8, flσ_8r⟩ := y9
      have flσ_8 := FC_of flσ_8r (by decide)
      have frσ_8 : FC [49920, 50176, 50432, 50688, 50944, (kE_size 194), (kE_placeX 194), (kE_placeY 194), kG_above, kG_active, kG_actives, kG_begin, kG_corner, kG_corners, kG_goesBack, kG_incident, kG_isBoundary, kG_onPath, kG_order, kG_path, kG_ringArea, kG_ringBegin, kG_rings, kG_shellOf, kN_chain, kN_hot, kN_hotX, kN_hotY, kN_keyCount, kN_keys, kN_lengthless, kN_order, kN_pieceFrom, kN_pieceMask, kN_pieceTo, kN_pieces] allS σ σ_8 := FC_tr frσ_2 flσ_8 (by first | decide | (rcases hE with rfl | rfl | rfl <;> decide)) (by first | decide | (rcases hE with rfl | rfl | rfl <;> decide)) (by first | exact allS_1 (by first | assumption | decide) | exact allS_h | exact allS_0) (by first | exact allS_1 (by first | assumption | decide) | exact allS_h | exact allS_0)
      have g10 := g7 _ rfl
      obtain ⟨g11, g12⟩ := g10
      try simp (disch := omega) only [w32_of, w64_of, w8_of] at g11
      try simp (disch := omega) only [w32_of, w64_of, w8_of] at g12
      refine wp_ck (by first | assumption | decide | omega) ?_
      refine wp_bt (v_slotNumbered (σ := σ_8) (slot_0 := to_0) hσ_8 (by (try dsimp only) <;> first | assumption | omega | ((try simp (disch := omega) only [w32_of, w64_of, w8_of]) <;> first | assumption | omega | (split <;> omega) | (refine And.intro ?_ ?_ <;> split <;> omega)) | omega)) ?_ ?_
      · rintro x_15 σ_14 y15
        try dsimp only at y15 ⊢
        obtain ⟨g13, g14, hσ_14, flσ_14r⟩ := y15
        have flσ_14 := FC_of flσ_14r (by decide)
        have frσ_14 : FC [49920, 50176, 50432, 50688, 50944, (kE_size 194), (kE_placeX 194), (kE_placeY 194), kG_above, kG_active, kG_actives, kG_begin, kG_corner, kG_corners, kG_goesBack, kG_incident, kG_isBoundary, kG_onPath, kG_order, kG_path, kG_ringArea, kG_ringBegin, kG_rings, kG_shellOf, kN_chain, kN_hot, kN_hotX, kN_hotY, kN_keyCount, kN_keys, kN_lengthless, kN_order, kN_pieceFrom, kN_pieceMask, kN_pieceTo, kN_pieces] allS σ σ_14 := FC_tr frσ_8 flσ_14 (by first | decide | (rcases hE with rfl | rfl | rfl <;> decide)) (by first | decide | (rcases hE with rfl | rfl | rfl <;> decide)) (by first | exact allS_1 (by first | assumption | decide) | exact allS_h | exact allS_0) (by first | exact allS_1 (by first | assumption | decide) | exact allS_h | exact allS_0)
        have g16 := g13 _ rfl
        obtain ⟨g17, g18⟩ := g16
        try simp (disch := omega) only [w32_of, w64_of, w8_of] at g17
        try simp (disch := omega) only [w32_of, w64_of, w8_of] at g18
        refine wp_ck (by first | assumption | decide | omega) ?_
        refine wp_bt (s_Q_mustBeThere (σ := σ_14) (shape_0 := x_3) hσ_14) ?_ ?_
        · rintro u19 σ_20 y21
          try dsimp only at y21 ⊢
          obtain ⟨g20, hσ_20, flσ_20r⟩ := y21
          have flσ_20 := FC_of flσ_20r (by decide)
          have frσ_20 : FC [49920, 50176, 50432, 50688, 50944, (kE_size 194), (kE_placeX 194), (kE_placeY 194), kG_above, kG_active, kG_actives, kG_begin, kG_corner, kG_corners, kG_goesBack, kG_incident, kG_isBoundary, kG_onPath, kG_order, kG_path, kG_ringArea, kG_ringBegin, kG_rings, kG_shellOf, kN_chain, kN_hot, kN_hotX, kN_hotY, kN_keyCount, kN_keys, kN_lengthless, kN_order, kN_pieceFrom, kN_pieceMask, kN_pieceTo, kN_pieces] allS σ σ_20 := FC_tr frσ_14 flσ_20 (by first | decide | (rcases hE with rfl | rfl | rfl <;> decide)) (by first | decide | (rcases hE with rfl | rfl | rfl <;> decide)) (by first | exact allS_1 (by first | assumption | decide) | exact allS_h | exact allS_0) (by first | exact allS_1 (by first | assumption | decide) | exact allS_h | exact allS_0)
          refine wp_bt (s_Q_mustBeThere (σ := σ_20) (shape_0 := x_9) hσ_20) ?_ ?_
          · rintro u22 σ_25 y24
            try dsimp only at y24 ⊢
            obtain ⟨g23, hσ_25, flσ_25r⟩ := y24
            have flσ_25 := FC_of flσ_25r (by decide)
            have frσ_25 : FC [49920, 50176, 50432, 50688, 50944, (kE_size 194), (kE_placeX 194), (kE_placeY 194), kG_above, kG_active, kG_actives, kG_begin, kG_corner, kG_corners, kG_goesBack, kG_incident, kG_isBoundary, kG_onPath, kG_order, kG_path, kG_ringArea, kG_ringBegin, kG_rings, kG_shellOf, kN_chain, kN_hot, kN_hotX, kN_hotY, kN_keyCount, kN_keys, kN_lengthless, kN_order, kN_pieceFrom, kN_pieceMask, kN_pieceTo, kN_pieces] allS σ σ_25 := FC_tr frσ_20 flσ_25 (by first | decide | (rcases hE with rfl | rfl | rfl <;> decide)) (by first | decide | (rcases hE with rfl | rfl | rfl <;> decide)) (by first | exact allS_1 (by first | assumption | decide) | exact allS_h | exact allS_0) (by first | exact allS_1 (by first | assumption | decide) | exact allS_h | exact allS_0)
            have s25 := SHA_f flσ_25 (SHA_f flσ_20 (SHA_f flσ_14 (SHA_f flσ_8 (SHA_f flσ_2 w0))))
            have sh3 := s25 x_3 (by assumption) (by assumption)
            have sh9 := s25 x_9 (by assumption) (by assumption)
            have c26 := w32_rng what_0
            refine wp_if (fun c25 => ?_) (fun c25 => ?_)
            · try simp (disch := omega) only [w32_of, w64_of, w8_of, decide_eq_true_eq, decide_eq_false_iff_not, Bool.not_eq_true] at c25
              exact wp_some ⟨hσ_25, frσ_25, (by (try dsimp only) <;> (first | exact SHA_w flσ_70 (by assumption) (SHA_s flσ_66 (SHA_f flσ_62 s25)) (hb5 (hmk (by assumption))) | exact SHA_s flσ_66 (SHA_f flσ_62 s25) | exact SHA_f flσ_62 s25 | exact s25 | exact SHA_f flσ_25 (SHA_f flσ_20 (SHA_f flσ_14 (SHA_f flσ_8 (SHA_f flσ_2 w0)))) | exact SHA_f flσ_20 (SHA_f flσ_14 (SHA_f flσ_8 (SHA_f flσ_2 w0))) | exact SHA_f flσ_14 (SHA_f flσ_8 (SHA_f flσ_2 w0)) | exact SHA_f flσ_8 (SHA_f flσ_2 w0) | exact SHA_f flσ_2 w0)), (by (try dsimp only) <;> (intro e9 q9; first | (injection q9; done) | (injection q9 with q8; omega)))⟩
            · try simp (disch := omega) only [w32_of, w64_of, w8_of, decide_eq_true_eq, decide_eq_false_iff_not, Bool.not_eq_true] at c25
              refine wp_if (fun c27 => ?_) (fun c27 => ?_)
              · try simp (disch := omega) only [w32_of, w64_of, w8_of, decide_eq_true_eq, decide_eq_false_iff_not, Bool.not_eq_true] at c27
                exact wp_some ⟨hσ_25, frσ_25, (by (try dsimp only) <;> (first | exact SHA_w flσ_70 (by assumption) (SHA_s flσ_66 (SHA_f flσ_62 s25)) (hb5 (hmk (by assumption))) | exact SHA_s flσ_66 (SHA_f flσ_62 s25) | exact SHA_f flσ_62 s25 | exact s25 | exact SHA_f flσ_25 (SHA_f flσ_20 (SHA_f flσ_14 (SHA_f flσ_8 (SHA_f flσ_2 w0)))) | exact SHA_f flσ_20 (SHA_f flσ_14 (SHA_f flσ_8 (SHA_f flσ_2 w0))) | exact SHA_f flσ_14 (SHA_f flσ_8 (SHA_f flσ_2 w0)) | exact SHA_f flσ_8 (SHA_f flσ_2 w0) | exact SHA_f flσ_2 w0)), (by (try dsimp only) <;> (intro e9 q9; first | (injection q9; done) | (injection q9 with q8; omega)))⟩
              · try simp (disch := omega) only [w32_of, w64_of, w8_of, decide_eq_true_eq, decide_eq_false_iff_not, Bool.not_eq_true] at c27
                refine wp_bd (s_Q_canBeLaidOver (σ := σ_25) (shape_0 := x_3) hσ_25 (by first | assumption | decide | omega) sh3) ?_
                rintro x_45 - hl45
                try simp (disch := omega) only [w32_of, w64_of, w8_of] at hl45
                refine wp_if (fun c28 => ?_) (fun c28 => ?_)
                · have k29 := hl45 c28
                  try simp (disch := omega) only [w32_of, w64_of, w8_of] at k29
                  try simp (disch := omega) only [w32_of, w64_of, w8_of, decide_eq_true_eq, decide_eq_false_iff_not, Bool.not_eq_true] at c28
                  refine wp_bd (s_Q_canBeLaidOver (σ := σ_25) (shape_0 := x_9) hσ_25 (by first | assumption | decide | omega) sh9) ?_
                  rintro x_48 - hl48
                  try simp (disch := omega) only [w32_of, w64_of, w8_of] at hl48
                  refine wp_if (fun c30 => ?_) (fun c30 => ?_)
                  · have k31 := hl48 c30
                    try simp (disch := omega) only [w32_of, w64_of, w8_of] at k31
                    try simp (disch := omega) only [w32_of, w64_of, w8_of, decide_eq_true_eq, decide_eq_false_iff_not, Bool.not_eq_true] at c30
                    refine wp_bd (s_N_snap (σ := σ_25) (one_0 := x_3) (two_0 := x_9) hσ_25 (by first | assumption | decide | omega) (by first | assumption | decide | omega) (by exact s25 x_3 (by assumption) (by assumption)) (by exact s25 x_9 (by assumption) (by assumption)) (by exact hl45 (by assumption)) (by exact hl48 (by assumption))) ?_
                    rintro ⟨x_63, σ_62⟩ - y32
                    try dsimp only at y32 ⊢
                    obtain ⟨hσ_62, flσ_62, hsn⟩ := y32
                    have frσ_62 : FC [49920, 50176, 50432, 50688, 50944, (kE_size 194), (kE_placeX 194), (kE_placeY 194), kG_above, kG_active, kG_actives, kG_begin, kG_corner, kG_corners, kG_goesBack, kG_incident, kG_isBoundary, kG_onPath, kG_order, kG_path, kG_ringArea, kG_ringBegin, kG_rings, kG_shellOf, kN_chain, kN_hot, kN_hotX, kN_hotY, kN_keyCount, kN_keys, kN_lengthless, kN_order, kN_pieceFrom, kN_pieceMask, kN_pieceTo, kN_pieces] allS σ σ_62 := FC_tr frσ_25 flσ_62 (by first | decide | (rcases hE with rfl | rfl | rfl <;> decide)) (by first | decide | (rcases hE with rfl | rfl | rfl <;> decide)) (by first | exact allS_1 (by first | assumption | decide) | exact allS_h | exact allS_0) (by first | exact allS_1 (by first | assumption | decide) | exact allS_h | exact allS_0)
                    have c33 := ii_kN_hot hσ_62 0
                    try simp (disch := omega) only [w32_of, w64_of, w8_of] at hsn
                    refine wp_if (fun c34 => ?_) (fun c34 => ?_)
                    · have k35 := hsn c34
                      try simp (disch := omega) only [w32_of, w64_of, w8_of] at k35
                      try simp (disch := omega) only [w32_of, w64_of, w8_of, decide_eq_true_eq, decide_eq_false_iff_not, Bool.not_eq_true] at c34
                      refine wp_bd (s_G_make (σ := σ_62) (way_0 := what_0) (into_0 := 162) hσ_62 (by decide) (by exact hsn (by assumption)) (by (try dsimp only) <;> first | assumption | omega | ((try simp (disch := omega) only [w32_of, w64_of, w8_of]) <;> first | assumption | omega | (split <;> omega) | (refine And.intro ?_ ?_ <;> split <;> omega)) | omega)) ?_
                      rintro ⟨x_67, σ_66⟩ - y36
                      try dsimp only at y36 ⊢
                      obtain ⟨hσ_66, flσ_66, hmk⟩ := y36
                      have frσ_66 : FC [49920, 50176, 50432, 50688, 50944, (kE_size 194), (kE_placeX 194), (kE_placeY 194), kG_above, kG_active, kG_actives, kG_begin, kG_corner, kG_corners, kG_goesBack, kG_incident, kG_isBoundary, kG_onPath, kG_order, kG_path, kG_ringArea, kG_ringBegin, kG_rings, kG_shellOf, kN_chain, kN_hot, kN_hotX, kN_hotY, kN_keyCount, kN_keys, kN_lengthless, kN_order, kN_pieceFrom, kN_pieceMask, kN_pieceTo, kN_pieces] allS σ σ_66 := FC_tr frσ_62 flσ_66 (by first | decide | (rcases hE with rfl | rfl | rfl <;> decide)) (by first | decide | (rcases hE with rfl | rfl | rfl <;> decide)) (by first | exact allS_1 (by first | assumption | decide) | exact allS_h | exact allS_0) (by first | exact allS_1 (by first | assumption | decide) | exact allS_h | exact allS_0)
                      try simp (disch := omega) only [w32_of, w64_of, w8_of] at hmk
                      refine wp_if (fun c37 => ?_) (fun c37 => ?_)
                      · have k38 := hmk c37
                        try simp (disch := omega) only [w32_of, w64_of, w8_of] at k38
                        try simp (disch := omega) only [w32_of, w64_of, w8_of, decide_eq_true_eq, decide_eq_false_iff_not, Bool.not_eq_true] at c37
                        refine wp_bd (v_become (σ := σ_66) (this_0 := x_15) (other_0 := 162) hσ_66 (by first | assumption | decide | omega) (by decide)) ?_
                        rintro σ_70 - ⟨hσ_70, flσ_70, hb1, hb2, hb3, hb4, hb5⟩
                        have frσ_70 : FC [49920, 50176, 50432, 50688, 50944, (kE_size 194), (kE_placeX 194), (kE_placeY 194), kG_above, kG_active, kG_actives, kG_begin, kG_corner, kG_corners, kG_goesBack, kG_incident, kG_isBoundary, kG_onPath, kG_order, kG_path, kG_ringArea, kG_ringBegin, kG_rings, kG_shellOf, kN_chain, kN_hot, kN_hotX, kN_hotY, kN_keyCount, kN_keys, kN_lengthless, kN_order, kN_pieceFrom, kN_pieceMask, kN_pieceTo, kN_pieces] allS σ σ_70 := FC_tr frσ_66 flσ_70 (by first | decide | (rcases hE with rfl | rfl | rfl <;> decide)) (by first | decide | (rcases hE with rfl | rfl | rfl <;> decide)) (by first | exact allS_1 (by first | assumption | decide) | exact allS_h | exact allS_0) (by first | exact allS_1 (by first | assumption | decide) | exact allS_h | exact allS_0)
                        try simp only [FC_plans (t := 162) frσ_66 (by decide) (NS_1 (by first | assumption | decide | omega) (by first | assumption | decide | omega))] at hb1
                        try simp only [FC_plans (t := x_15) frσ_70 (by first | assumption | decide | omega) (NS_1 (by first | assumption | decide | omega) (by first | assumption | decide | omega))] at hb1
                        have c39 := iiA_plans (s := x_15) hσ (by first | assumption | decide | omega) 0
                        have c40 := iiA_plans (s := 162) hσ (by decide) 0
                        try simp (disch := omega) only [w32_of, w64_of, w8_of] at hb1
                        try simp only [FC_points (t := 162) frσ_66 (by decide) (NS_1 (by first | assumption | decide | omega) (by first | assumption | decide | omega))] at hb2
                        try simp only [FC_points (t := x_15) frσ_70 (by first | assumption | decide | omega) (NS_1 (by first | assumption | decide | omega) (by first | assumption | decide | omega))] at hb2
                        have c41 := iiA_points (s := x_15) hσ (by first | assumption | decide | omega) 0
                        have c42 := iiA_points (s := 162) hσ (by decide) 0
                        try simp (disch := omega) only [w32_of, w64_of, w8_of] at hb2
                        try simp only [FC_plan (t := 162) frσ_66 (by decide) (NS_1 (by first | assumption | decide | omega) (by first | assumption | decide | omega))] at hb3
                        try simp only [FC_plans (t := 162) frσ_66 (by decide) (NS_1 (by first | assumption | decide | omega) (by first | assumption | decide | omega))] at hb3
                        try simp only [FC_plan (t := x_15) frσ_70 (by first | assumption | decide | omega) (NS_1 (by first | assumption | decide | omega) (by first | assumption | decide | omega))] at hb3
                        try simp (disch := omega) only [w32_of, w64_of, w8_of] at hb3
                        try simp only [FC_points (t := 162) frσ_66 (by decide) (NS_1 (by first | assumption | decide | omega) (by first | assumption | decide | omega))] at hb4
                        try simp only [FC_x (t := 162) frσ_66 (by decide) (NS_1 (by first | assumption | decide | omega) (by first | assumption | decide | omega))] at hb4
                        try simp only [FC_y (t := 162) frσ_66 (by decide) (NS_1 (by first | assumption | decide | omega) (by first | assumption | decide | omega))] at hb4
                        try simp only [FC_x (t := x_15) frσ_70 (by first | assumption | decide | omega) (NS_1 (by first | assumption | decide | omega) (by first | assumption | decide | omega))] at hb4
                        try simp only [FC_y (t := x_15) frσ_70 (by first | assumption | decide | omega) (NS_1 (by first | assumption | decide | omega) (by first | assumption | decide | omega))] at hb4
                        try simp (disch := omega) only [w32_of, w64_of, w8_of] at hb4
                        try simp (disch := omega) only [w32_of, w64_of, w8_of] at hb5
                        refine wp_rdI (by (try dsimp only) <;> first | assumption | omega | ((try simp (disch := omega) only [w32_of, w64_of, w8_of]) <;> first | assumption | omega | (split <;> omega) | (refine And.intro ?_ ?_ <;> split <;> omega)) | omega) (by (try dsimp only) <;> first | assumption | omega | ((try simp (disch := omega) only [w32_of, w64_of, w8_of]) <;> first | assumption | omega | (split <;> omega) | (refine And.intro ?_ ?_ <;> split <;> omega)) | omega) (fun x_71 e_x_71 => ?_)
                        try rw [FC_plan (t := x_15) frσ_70 (by first | assumption | decide | omega) (NS_1 (by first | assumption | decide | omega) (by first | assumption | decide | omega))] at e_x_71
                        try simp (disch := omega) only [w32_of, w64_of, w8_of] at e_x_71
                        exact wp_some ⟨hσ_70, frσ_70, (by (try dsimp only) <;> (first | exact SHA_w flσ_70 (by assumption) (SHA_s flσ_66 (SHA_f flσ_62 s25)) (hb5 (hmk (by assumption))) | exact SHA_s flσ_66 (SHA_f flσ_62 s25) | exact SHA_f flσ_62 s25 | exact s25 | exact SHA_f flσ_25 (SHA_f flσ_20 (SHA_f flσ_14 (SHA_f flσ_8 (SHA_f flσ_2 w0)))) | exact SHA_f flσ_20 (SHA_f flσ_14 (SHA_f flσ_8 (SHA_f flσ_2 w0))) | exact SHA_f flσ_14 (SHA_f flσ_8 (SHA_f flσ_2 w0)) | exact SHA_f flσ_8 (SHA_f flσ_2 w0) | exact SHA_f flσ_2 w0)), (by (try dsimp only) <;> (intro e9 q9; first | (injection q9; done) | (injection q9 with q8; omega)))⟩
                      · try simp (disch := omega) only [w32_of, w64_of, w8_of, decide_eq_true_eq, decide_eq_false_iff_not, Bool.not_eq_true] at c37
                        exact wp_some ⟨hσ_66, frσ_66, (by (try dsimp only) <;> (first | exact SHA_w flσ_70 (by assumption) (SHA_s flσ_66 (SHA_f flσ_62 s25)) (hb5 (hmk (by assumption))) | exact SHA_s flσ_66 (SHA_f flσ_62 s25) | exact SHA_f flσ_62 s25 | exact s25 | exact SHA_f flσ_25 (SHA_f flσ_20 (SHA_f flσ_14 (SHA_f flσ_8 (SHA_f flσ_2 w0)))) | exact SHA_f flσ_20 (SHA_f flσ_14 (SHA_f flσ_8 (SHA_f flσ_2 w0))) | exact SHA_f flσ_14 (SHA_f flσ_8 (SHA_f flσ_2 w0)) | exact SHA_f flσ_8 (SHA_f flσ_2 w0) | exact SHA_f flσ_2 w0)), (by (try dsimp only) <;> (intro e9 q9; first | (injection q9; done) | (injection q9 with q8; omega)))⟩
                    · try simp (disch := omega) only [w32_of, w64_of, w8_of, decide_eq_true_eq, decide_eq_false_iff_not, Bool.not_eq_true] at c34
                      exact wp_some ⟨hσ_62, frσ_62, (by (try dsimp only) <;> (first | exact SHA_w flσ_70 (by assumption) (SHA_s flσ_66 (SHA_f flσ_62 s25)) (hb5 (hmk (by assumption))) | exact SHA_s flσ_66 (SHA_f flσ_62 s25) | exact SHA_f flσ_62 s25 | exact s25 | exact SHA_f flσ_25 (SHA_f flσ_20 (SHA_f flσ_14 (SHA_f flσ_8 (SHA_f flσ_2 w0)))) | exact SHA_f flσ_20 (SHA_f flσ_14 (SHA_f flσ_8 (SHA_f flσ_2 w0))) | exact SHA_f flσ_14 (SHA_f flσ_8 (SHA_f flσ_2 w0)) | exact SHA_f flσ_8 (SHA_f flσ_2 w0) | exact SHA_f flσ_2 w0)), (by (try dsimp only) <;> (intro e9 q9; first | (injection q9; done) | (injection q9 with q8; omega)))⟩
                  · try simp (disch := omega) only [w32_of, w64_of, w8_of, decide_eq_true_eq, decide_eq_false_iff_not, Bool.not_eq_true] at c30
                    exact wp_some ⟨hσ_25, frσ_25, (by (try dsimp only) <;> (first | exact SHA_w flσ_70 (by assumption) (SHA_s flσ_66 (SHA_f flσ_62 s25)) (hb5 (hmk (by assumption))) | exact SHA_s flσ_66 (SHA_f flσ_62 s25) | exact SHA_f flσ_62 s25 | exact s25 | exact SHA_f flσ_25 (SHA_f flσ_20 (SHA_f flσ_14 (SHA_f flσ_8 (SHA_f flσ_2 w0)))) | exact SHA_f flσ_20 (SHA_f flσ_14 (SHA_f flσ_8 (SHA_f flσ_2 w0))) | exact SHA_f flσ_14 (SHA_f flσ_8 (SHA_f flσ_2 w0)) | exact SHA_f flσ_8 (SHA_f flσ_2 w0) | exact SHA_f flσ_2 w0)), (by (try dsimp only) <;> (intro e9 q9; first | (injection q9; done) | (injection q9 with q8; omega)))⟩
                · try simp (disch := omega) only [w32_of, w64_of, w8_of, decide_eq_true_eq, decide_eq_false_iff_not, Bool.not_eq_true] at c28
                  exact wp_some ⟨hσ_25, frσ_25, (by (try dsimp only) <;> (first | exact SHA_w flσ_70 (by assumption) (SHA_s flσ_66 (SHA_f flσ_62 s25)) (hb5 (hmk (by assumption))) | exact SHA_s flσ_66 (SHA_f flσ_62 s25) | exact SHA_f flσ_62 s25 | exact s25 | exact SHA_f flσ_25 (SHA_f flσ_20 (SHA_f flσ_14 (SHA_f flσ_8 (SHA_f flσ_2 w0)))) | exact SHA_f flσ_20 (SHA_f flσ_14 (SHA_f flσ_8 (SHA_f flσ_2 w0))) | exact SHA_f flσ_14 (SHA_f flσ_8 (SHA_f flσ_2 w0)) | exact SHA_f flσ_8 (SHA_f flσ_2 w0) | exact SHA_f flσ_2 w0)), (by (try dsimp only) <;> (intro e9 q9; first | (injection q9; done) | (injection q9 with q8; omega)))⟩
          · rintro u47 σ_25 y49
            try dsimp only at y49 ⊢
            obtain ⟨g48, hσ_25, flσ_25r⟩ := y49
            have flσ_25 := FC_of flσ_25r (by decide)
            have frσ_25 : FC [49920, 50176, 50432, 50688, 50944, (kE_size 194), (kE_placeX 194), (kE_placeY 194), kG_above, kG_active, kG_actives, kG_begin, kG_corner, kG_corners, kG_goesBack, kG_incident, kG_isBoundary, kG_onPath, kG_order, kG_path, kG_ringArea, kG_ringBegin, kG_rings, kG_shellOf, kN_chain, kN_hot, kN_hotX, kN_hotY, kN_keyCount, kN_keys, kN_lengthless, kN_order, kN_pieceFrom, kN_pieceMask, kN_pieceTo, kN_pieces] allS σ σ_25 := FC_tr frσ_20 flσ_25 (by first | decide | (rcases hE with rfl | rfl | rfl <;> decide)) (by first | decide | (rcases hE with rfl | rfl | rfl <;> decide)) (by first | exact allS_1 (by first | assumption | decide) | exact allS_h | exact allS_0) (by first | exact allS_1 (by first | assumption | decide) | exact allS_h | exact allS_0)
            have g50 := g48 _ rfl
            obtain ⟨g51, g52⟩ := g50
            try simp (disch := omega) only [w32_of, w64_of, w8_of] at g51
            try simp (disch := omega) only [w32_of, w64_of, w8_of] at g52
            exact ⟨hσ_25, frσ_25, (by (try dsimp only) <;> (first | exact SHA_w flσ_70 (by assumption) (SHA_s flσ_66 (SHA_f flσ_62 s25)) (hb5 (hmk (by assumption))) | exact SHA_s flσ_66 (SHA_f flσ_62 s25) | exact SHA_f flσ_62 s25 | exact s25 | exact SHA_f flσ_25 (SHA_f flσ_20 (SHA_f flσ_14 (SHA_f flσ_8 (SHA_f flσ_2 w0)))) | exact SHA_f flσ_20 (SHA_f flσ_14 (SHA_f flσ_8 (SHA_f flσ_2 w0))) | exact SHA_f flσ_14 (SHA_f flσ_8 (SHA_f flσ_2 w0)) | exact SHA_f flσ_8 (SHA_f flσ_2 w0) | exact SHA_f flσ_2 w0)), (by (try dsimp only) <;> (intro e9 q9; first | (injection q9; done) | (injection q9 with q8; omega)))⟩
        · rintro u53 σ_20 y55
          try dsimp only at y55 ⊢
          obtain ⟨g54, hσ_20, flσ_20r⟩ := y55
          have flσ_20 := FC_of flσ_20r (by decide)
          have frσ_20 : FC [49920, 50176, 50432, 50688, 50944, (kE_size 194), (kE_placeX 194), (kE_placeY 194), kG_above, kG_active, kG_actives, kG_begin, kG_corner, kG_corners, kG_goesBack, kG_incident, kG_isBoundary, kG_onPath, kG_order, kG_path, kG_ringArea, kG_ringBegin, kG_rings, kG_shellOf, kN_chain, kN_hot, kN_hotX, kN_hotY, kN_keyCount, kN_keys, kN_lengthless, kN_order, kN_pieceFrom, kN_pieceMask, kN_pieceTo, kN_pieces] allS σ σ_20 := FC_tr frσ_14 flσ_20 (by first | decide | (rcases hE with rfl | rfl | rfl <;> decide)) (by first | decide | (rcases hE with rfl | rfl | rfl <;> decide)) (by first | exact allS_1 (by first | assumption | decide) | exact allS_h | exact allS_0) (by first | exact allS_1 (by first | assumption | decide) | exact allS_h | exact allS_0)
          have g56 := g54 _ rfl
          obtain ⟨g57, g58⟩ := g56
          try simp (disch := omega) only [w32_of, w64_of, w8_of] at g57
          try simp (disch := omega) only [w32_of, w64_of, w8_of] at g58
          exact ⟨hσ_20, frσ_20, (by (try dsimp only) <;> (first | exact SHA_w flσ_70 (by assumption) (SHA_s flσ_66 (SHA_f flσ_62 s25)) (hb5 (hmk (by assumption))) | exact SHA_s flσ_66 (SHA_f flσ_62 s25) | exact SHA_f flσ_62 s25 | exact s25 | exact SHA_f flσ_25 (SHA_f flσ_20 (SHA_f flσ_14 (SHA_f flσ_8 (SHA_f flσ_2 w0)))) | exact SHA_f flσ_20 (SHA_f flσ_14 (SHA_f flσ_8 (SHA_f flσ_2 w0))) | exact SHA_f flσ_14 (SHA_f flσ_8 (SHA_f flσ_2 w0)) | exact SHA_f flσ_8 (SHA_f flσ_2 w0) | exact SHA_f flσ_2 w0)), (by (try dsimp only) <;> (intro e9 q9; first | (injection q9; done) | (injection q9 with q8; omega)))⟩
      · rintro u59 σ_14 y62
        try dsimp only at y62 ⊢
        obtain ⟨g60, g61, hσ_14, flσ_14r⟩ := y62
        have flσ_14 := FC_of flσ_14r (by decide)
        have frσ_14 : FC [49920, 50176, 50432, 50688, 50944, (kE_size 194), (kE_placeX 194), (kE_placeY 194), kG_above, kG_active, kG_actives, kG_begin, kG_corner, kG_corners, kG_goesBack, kG_incident, kG_isBoundary, kG_onPath, kG_order, kG_path, kG_ringArea, kG_ringBegin, kG_rings, kG_shellOf, kN_chain, kN_hot, kN_hotX, kN_hotY, kN_keyCount, kN_keys, kN_lengthless, kN_order, kN_pieceFrom, kN_pieceMask, kN_pieceTo, kN_pieces] allS σ σ_14 := FC_tr frσ_8 flσ_14 (by first | decide | (rcases hE with rfl | rfl | rfl <;> decide)) (by first | decide | (rcases hE with rfl | rfl | rfl <;> decide)) (by first | exact allS_1 (by first | assumption | decide) | exact allS_h | exact allS_0) (by first | exact allS_1 (by first | assumption | decide) | exact allS_h | exact allS_0)
        have g63 := g61 _ rfl
        obtain ⟨g64, g65⟩ := g63
        try simp (disch := omega) only [w32_of, w64_of, w8_of] at g64
        try simp (disch := omega) only [w32_of, w64_of, w8_of] at g65
        exact ⟨hσ_14, frσ_14, (by (try dsimp only) <;> (first | exact SHA_w flσ_70 (by assumption) (SHA_s flσ_66 (SHA_f flσ_62 s25)) (hb5 (hmk (by assumption))) | exact SHA_s flσ_66 (SHA_f flσ_62 s25) | exact SHA_f flσ_62 s25 | exact s25 | exact SHA_f flσ_25 (SHA_f flσ_20 (SHA_f flσ_14 (SHA_f flσ_8 (SHA_f flσ_2 w0)))) | exact SHA_f flσ_20 (SHA_f flσ_14 (SHA_f flσ_8 (SHA_f flσ_2 w0))) | exact SHA_f flσ_14 (SHA_f flσ_8 (SHA_f flσ_2 w0)) | exact SHA_f flσ_8 (SHA_f flσ_2 w0) | exact SHA_f flσ_2 w0)), (by (try dsimp only) <;> (intro e9 q9; first | (injection q9; done) | (injection q9 with q8; omega)))⟩
    · rintro u66 σ_8 y69
      try dsimp only at y69 ⊢
      obtain ⟨g67, g68, hσ_8, flσ_8r⟩ := y69
      have flσ_8 := FC_of flσ_8r (by decide)
      have frσ_8 : FC [49920, 50176, 50432, 50688, 50944, (kE_size 194), (kE_placeX 194), (kE_placeY 194), kG_above, kG_active, kG_actives, kG_begin, kG_corner, kG_corners, kG_goesBack, kG_incident, kG_isBoundary, kG_onPath, kG_order, kG_path, kG_ringArea, kG_ringBegin, kG_rings, kG_shellOf, kN_chain, kN_hot, kN_hotX, kN_hotY, kN_keyCount, kN_keys, kN_lengthless, kN_order, kN_pieceFrom, kN_pieceMask, kN_pieceTo, kN_pieces] allS σ σ_8 := FC_tr frσ_2 flσ_8 (by first | decide | (rcases hE with rfl | rfl | rfl <;> decide)) (by first | decide | (rcases hE with rfl | rfl | rfl <;> decide)) (by first | exact allS_1 (by first | assumption | decide) | exact allS_h | exact allS_0) (by first | exact allS_1 (by first | assumption | decide) | exact allS_h | exact allS_0)
      have g70 := g68 _ rfl
      obtain ⟨g71, g72⟩ := g70
      try simp (disch := omega) only [w32_of, w64_of, w8_of] at g71
      try simp (disch := omega) only [w32_of, w64_of, w8_of] at g72
      exact ⟨hσ_8, frσ_8, (by (try dsimp only) <;> (first | exact SHA_w flσ_70 (by assumption) (SHA_s flσ_66 (SHA_f flσ_62 s25)) (hb5 (hmk (by assumption))) | exact SHA_s flσ_66 (SHA_f flσ_62 s25) | exact SHA_f flσ_62 s25 | exact s25 | exact SHA_f flσ_25 (SHA_f flσ_20 (SHA_f flσ_14 (SHA_f flσ_8 (SHA_f flσ_2 w0)))) | exact SHA_f flσ_20 (SHA_f flσ_14 (SHA_f flσ_8 (SHA_f flσ_2 w0))) | exact SHA_f flσ_14 (SHA_f flσ_8 (SHA_f flσ_2 w0)) | exact SHA_f flσ_8 (SHA_f flσ_2 w0) | exact SHA_f flσ_2 w0)), (by (try dsimp only) <;> (intro e9 q9; first | (injection q9; done) | (injection q9 with q8; omega)))⟩
  · rintro u73 σ_2 y76
    try dsimp only at y76 ⊢
    obtain ⟨g74, g75, hσ_2, flσ_2r⟩ := y76
    have flσ_2 := FC_of flσ_2r (by decide)
    have frσ_2 : FC [49920, 50176, 50432, 50688, 50944, (kE_size 194), (kE_placeX 194), (kE_placeY 194), kG_above, kG_active, kG_actives, kG_begin, kG_corner, kG_corners, kG_goesBack, kG_incident, kG_isBoundary, kG_onPath, kG_order, kG_path, kG_ringArea, kG_ringBegin, kG_rings, kG_shellOf, kN_chain, kN_hot, kN_hotX, kN_hotY, kN_keyCount, kN_keys, kN_lengthless, kN_order, kN_pieceFrom, kN_pieceMask, kN_pieceTo, kN_pieces] allS σ σ_2 := FC_le flσ_2 (by first | decide | (rcases hE with rfl | rfl | rfl <;> decide)) (by first | exact allS_1 (by first | assumption | decide) | exact allS_h | exact allS_0)
    have g77 := g75 _ rfl
    obtain ⟨g78, g79⟩ := g77
    try simp (disch := omega) only [w32_of, w64_of, w8_of] at g78
    try simp (disch := omega) only [w32_of, w64_of, w8_of] at g79
    exact ⟨hσ_2, frσ_2, (by (try dsimp only) <;> (first | exact SHA_w flσ_70 (by assumption) (SHA_s flσ_66 (SHA_f flσ_62 s25)) (hb5 (hmk (by assumption))) | exact SHA_s flσ_66 (SHA_f flσ_62 s25) | exact SHA_f flσ_62 s25 | exact s25 | exact SHA_f flσ_25 (SHA_f flσ_20 (SHA_f flσ_14 (SHA_f flσ_8 (SHA_f flσ_2 w0)))) | exact SHA_f flσ_20 (SHA_f flσ_14 (SHA_f flσ_8 (SHA_f flσ_2 w0))) | exact SHA_f flσ_14 (SHA_f flσ_8 (SHA_f flσ_2 w0)) | exact SHA_f flσ_8 (SHA_f flσ_2 w0) | exact SHA_f flσ_2 w0)), (by (try dsimp only) <;> (intro e9 q9; first | (injection q9; done) | (injection q9 with q8; omega)))⟩
theorem s_Q_canBeRelated {σ : SG} {shape_0 : Nat} (hσ : II σ) (hs_shape_0 : isS shape_0) : wp_ (fQ_canBeRelated σ shape_0) (fun zz_ => True) := by
  unfold fQ_canBeRelated
  refine wp_bd (P := fun rr_ => True) ?_ ?_
  · refine wp_bd (s_A_kind (σ := σ) (this_0 := shape_0) hσ (by first | assumption | decide | omega)) ?_
    rintro x_2 - g1
    have c2 := iiA_plans (s := shape_0) hσ (by first | assumption | decide | omega) 0
    try simp (disch := omega) only [w32_of, w64_of, w8_of] at g1
    have c4 := w32_rng x_2
    refine wp_if (fun c3 => ?_) (fun c3 => ?_)
    · try simp (disch := omega) only [w32_of, w64_of, w8_of, decide_eq_true_eq, decide_eq_false_iff_not, Bool.not_eq_true] at c3
      refine wp_bd (s_A_liesWithin (σ := σ) (this_0 := shape_0) (limit_0 := 500000000) hσ (by first | assumption | decide | omega) (by (try dsimp only) <;> first | assumption | omega | ((try simp (disch := omega) only [w32_of, w64_of, w8_of]) <;> first | assumption | omega | (split <;> omega) | (refine And.intro ?_ ?_ <;> split <;> omega)) | omega)) ?_
      rintro x_5 - g5
      have c6 := iiA_points (s := shape_0) hσ (by first | assumption | decide | omega) 0
      try simp (disch := omega) only [w32_of, w64_of, w8_of] at g5
      refine wp_if (fun c7 => ?_) (fun c7 => ?_)
      · have k8 := g5 c7
        try simp (disch := omega) only [w32_of, w64_of, w8_of] at k8
        try simp (disch := omega) only [w32_of, w64_of, w8_of, decide_eq_true_eq, decide_eq_false_iff_not, Bool.not_eq_true] at c7
        exact wp_some trivial
      · try simp (disch := omega) only [w32_of, w64_of, w8_of, decide_eq_true_eq, decide_eq_false_iff_not, Bool.not_eq_true] at c7
        exact wp_some trivial
    · try simp (disch := omega) only [w32_of, w64_of, w8_of, decide_eq_true_eq, decide_eq_false_iff_not, Bool.not_eq_true] at c3
      exact wp_some trivial
  rintro x_10 _ -
  exact wp_some trivial
theorem s_Q_mustBeRelatable {σ : SG} {what_0 : Int} {slot_0 : Int} {other_0 : Int} (hσ : II σ) (qwhat_0 : (-2147483648) ≤ what_0 ∧ what_0 ≤ 2147483647) (qslot_0 : (-2147483648) ≤ slot_0 ∧ slot_0 ≤ 2147483647) (qother_0 : (-2147483648) ≤ other_0 ∧ other_0 ≤ 2147483647) : wp_ (fQ_mustBeRelatable σ what_0 slot_0 other_0) (fun zz_ => II zz_.2 ∧ FC [] [] σ zz_.2 ∧ (∀ e : Nat, zz_.1 = .inr e → e = 0 ∨ e = 1 ∨ e = 2)) := by
  unfold fQ_mustBeRelatable
  refine wp_bt (v_slotNumbered (σ := σ) (slot_0 := slot_0) hσ (by (try dsimp only) <;> first | assumption | omega | ((try simp (disch := omega) only [w32_of, w64_of, w8_of]) <;> first | assumption | omega | (split <;> omega) | (refine And.intro ?_ ?_ <;> split <;> omega)) | omega)) ?_ ?_
  · rintro x_3 σ_2 y3
    try dsimp only at y3 ⊢
    obtain ⟨g1, g2, hσ_2, flσ_2r⟩ := y3
    have flσ_2 := FC_of flσ_2r (by decide)
    have frσ_2 : FC [] [] σ σ_2 := FC_le flσ_2 (by first | decide | (rcases hE with rfl | rfl | rfl <;> decide)) (by simp)
    have g4 := g1 _ rfl
    obtain ⟨g5, g6⟩ := g4
    try simp (disch := omega) only [w32_of, w64_of, w8_of] at g5
    try simp (disch := omega) only [w32_of, w64_of, w8_of] at g6
    refine wp_ck (by first | assumption | decide | omega) ?_
    refine wp_bt (v_slotNumbered (σ := σ_2) (slot_0 := other_0) hσ_2 (by (try dsimp only) <;> first | assumption | omega | ((try simp (disch := omega) only [w32_of, w64_of, w8_of]) <;> first | assumption | omega | (split <;> omega) | (refine And.intro ?_ ?_ <;> split <;> omega)) | omega)) ?_ ?_
    · rintro x_9 σ_8 y9
      try dsimp only at y9 ⊢
      obtain ⟨g7, g8, hσ_8, flσ_8r⟩ := y9
      have flσ_8 := FC_of flσ_8r (by decide)
      have frσ_8 : FC [] [] σ σ_8 := FC_tr frσ_2 flσ_8 (by first | decide | (rcases hE with rfl | rfl | rfl <;> decide)) (by first | decide | (rcases hE with rfl | rfl | rfl <;> decide)) (by simp) (by simp)
      have g10 := g7 _ rfl
      obtain ⟨g11, g12⟩ := g10
      try simp (disch := omega) only [w32_of, w64_of, w8_of] at g11
      try simp (disch := omega) only [w32_of, w64_of, w8_of] at g12
      refine wp_ck (by first | assumption | decide | omega) ?_
      refine wp_bt (s_Q_mustBeThere (σ := σ_8) (shape_0 := x_3) hσ_8) ?_ ?_
      · rintro u13 σ_14 y15
        try dsimp only at y15 ⊢
        obtain ⟨g14, hσ_14, flσ_14r⟩ := y15
        have flσ_14 := FC_of flσ_14r (by decide)
        have frσ_14 : FC [] [] σ σ_14 := FC_tr frσ_8 flσ_14 (by first | decide | (rcases hE with rfl | rfl | rfl <;> decide)) (by first | decide | (rcases hE with rfl | rfl | rfl <;> decide)) (by simp) (by simp)
        refine wp_bt (s_Q_mustBeThere (σ := σ_14) (shape_0 := x_9) hσ_14) ?_ ?_
        · rintro u16 σ_19 y18
          try dsimp only at y18 ⊢
          obtain ⟨g17, hσ_19, flσ_19r⟩ := y18
          have flσ_19 := FC_of flσ_19r (by decide)
          have frσ_19 : FC [] [] σ σ_19 := FC_tr frσ_14 flσ_19 (by first | decide | (rcases hE with rfl | rfl | rfl <;> decide)) (by first | decide | (rcases hE with rfl | rfl | rfl <;> decide)) (by simp) (by simp)
          have c20 := w32_rng what_0
          refine wp_if (fun c19 => ?_) (fun c19 => ?_)
          · try simp (disch := omega) only [w32_of, w64_of, w8_of, decide_eq_true_eq, decide_eq_false_iff_not, Bool.not_eq_true] at c19
            exact wp_some ⟨hσ_19, frσ_19, (by (try dsimp only) <;> (intro e9 q9; first | (injection q9; done) | (injection q9 with q8; omega)))⟩
          · try simp (disch := omega) only [w32_of, w64_of, w8_of, decide_eq_true_eq, decide_eq_false_iff_not, Bool.not_eq_true] at c19
            refine wp_if (fun c21 => ?_) (fun c21 => ?_)
            · try simp (disch := omega) only [w32_of, w64_of, w8_of, decide_eq_true_eq, decide_eq_false_iff_not, Bool.not_eq_true] at c21
              exact wp_some ⟨hσ_19, frσ_19, (by (try dsimp only) <;> (intro e9 q9; first | (injection q9; done) | (injection q9 with q8; omega)))⟩
            · try simp (disch := omega) only [w32_of, w64_of, w8_of, decide_eq_true_eq, decide_eq_false_iff_not, Bool.not_eq_true] at c21
              refine wp_bd (s_Q_canBeRelated (σ := σ_19) (shape_0 := x_3) hσ_19 (by first | assumption | decide | omega)) ?_
              rintro x_39 - -
              refine wp_if (fun c23 => ?_) (fun c23 => ?_)
              · try simp (disch := omega) only [w32_of, w64_of, w8_of, decide_eq_true_eq, decide_eq_false_iff_not, Bool.not_eq_true] at c23
                refine wp_bd (s_Q_canBeRelated (σ := σ_19) (shape_0 := x_9) hσ_19 (by first | assumption | decide | omega)) ?_
                rintro x_42 - -
                refine wp_if (fun c25 => ?_) (fun c25 => ?_)
                · try simp (disch := omega) only [w32_of, w64_of, w8_of, decide_eq_true_eq, decide_eq_false_iff_not, Bool.not_eq_true] at c25
                  exact wp_some ⟨hσ_19, frσ_19, (by (try dsimp only) <;> (intro e9 q9; first | (injection q9; done) | (injection q9 with q8; omega)))⟩
                · try simp (disch := omega) only [w32_of, w64_of, w8_of, decide_eq_true_eq, decide_eq_false_iff_not, Bool.not_eq_true] at c25
                  exact wp_some ⟨hσ_19, frσ_19, (by (try dsimp only) <;> (intro e9 q9; first | (injection q9; done) | (injection q9 with q8; omega)))⟩
              · try simp (disch := omega) only [w32_of, w64_of, w8_of, decide_eq_true_eq, decide_eq_false_iff_not, Bool.not_eq_true] at c23
                exact wp_some ⟨hσ_19, frσ_19, (by (try dsimp only) <;> (intro e9 q9; first | (injection q9; done) | (injection q9 with q8; omega)))⟩
        · rintro u26 σ_19 y28
          try dsimp only at y28 ⊢
          obtain ⟨g27, hσ_19, flσ_19r⟩ := y28
          have flσ_19 := FC_of flσ_19r (by decide)
          have frσ_19 : FC [] [] σ σ_19 := FC_tr frσ_14 flσ_19 (by first | decide | (rcases hE with rfl | rfl | rfl <;> decide)) (by first | decide | (rcases hE with rfl | rfl | rfl <;> decide)) (by simp) (by simp)
          have g29 := g27 _ rfl
          obtain ⟨g30, g31⟩ := g29
          try simp (disch := omega) only [w32_of, w64_of, w8_of] at g30
          try simp (disch := omega) only [w32_of, w64_of, w8_of] at g31
          exact ⟨hσ_19, frσ_19, (by (try dsimp only) <;> (intro e9 q9; first | (injection q9; done) | (injection q9 with q8; omega)))⟩
      · rintro u32 σ_14 y34
        try dsimp only at y34 ⊢
        obtain ⟨g33, hσ_14, flσ_14r⟩ := y34
        have flσ_14 := FC_of flσ_14r (by decide)
        have frσ_14 : FC [] [] σ σ_14 := FC_tr frσ_8 flσ_14 (by first | decide | (rcases hE with rfl | rfl | rfl <;> decide)) (by first | decide | (rcases hE with rfl | rfl | rfl <;> decide)) (by simp) (by simp)
        have g35 := g33 _ rfl
        obtain ⟨g36, g37⟩ := g35
        try simp (disch := omega) only [w32_of, w64_of, w8_of] at g36
        try simp (disch := omega) only [w32_of, w64_of, w8_of] at g37
        exact ⟨hσ_14, frσ_14, (by (try dsimp only) <;> (intro e9 q9; first | (injection q9; done) | (injection q9 with q8; omega)))⟩
    · rintro u38 σ_8 y41
      try dsimp only at y41 ⊢
      obtain ⟨g39, g40, hσ_8, flσ_8r⟩ := y41
      have flσ_8 := FC_of flσ_8r (by decide)
      have frσ_8 : FC [] [] σ σ_8 := FC_tr frσ_2 flσ_8 (by first | decide | (rcases hE with rfl | rfl | rfl <;> decide)) (by first | decide | (rcases hE with rfl | rfl | rfl <;> decide)) (by simp) (by simp)
      have g42 := g40 _ rfl
      obtain ⟨g43, g44⟩ := g42
      try simp (disch := omega) only [w32_of, w64_of, w8_of] at g43
      try simp (disch := omega) only [w32_of, w64_of, w8_of] at g44
      exact ⟨hσ_8, frσ_8, (by (try dsimp only) <;> (intro e9 q9; first | (injection q9; done) | (injection q9 with q8; omega)))⟩
  · rintro u45 σ_2 y48
    try dsimp only at y48 ⊢
    obtain ⟨g46, g47, hσ_2, flσ_2r⟩ := y48
    have flσ_2 := FC_of flσ_2r (by decide)
    have frσ_2 : FC [] [] σ σ_2 := FC_le flσ_2 (by first | decide | (rcases hE with rfl | rfl | rfl <;> decide)) (by simp)
    have g49 := g47 _ rfl
    obtain ⟨g50, g51⟩ := g49
    try simp (disch := omega) only [w32_of, w64_of, w8_of] at g50
    try simp (disch := omega) only [w32_of, w64_of, w8_of] at g51
    exact ⟨hσ_2, frσ_2, (by (try dsimp only) <;> (intro e9 q9; first | (injection q9; done) | (injection q9 with q8; omega)))⟩
theorem s_Q_relate {σ : SG} {slot_0 : Int} {other_0 : Int} (hσ : II σ) (qslot_0 : (-2147483648) ≤ slot_0 ∧ slot_0 ≤ 2147483647) (qother_0 : (-2147483648) ≤ other_0 ∧ other_0 ≤ 2147483647) (w0 : SHA σ) : wp_ (fQ_relate σ slot_0 other_0) (fun zz_ => II zz_.2 ∧ FC [57344, 57600, 57856, 58112, 58368, (kE_size 223), (kE_placeX 223), (kE_placeY 223), kT_covers, kT_crossed, kT_cuts, kT_keys, kT_matrix, kT_rimOwner, kT_rimX, kT_rimY, kT_rims, kT_share, kT_whole] [] σ zz_.2 ∧ (∀ e : Nat, zz_.1 = .inr e → e = 0 ∨ e = 1 ∨ e = 2 ∨ e = 3)) := by
  unfold fQ_relate
  refine wp_bt (s_Q_mustBeRelatable (σ := σ) (what_0 := 0) (slot_0 := slot_0) (other_0 := other_0) hσ (by (try dsimp only) <;> first | assumption | omega | ((try simp (disch := omega) only [w32_of, w64_of, w8_of]) <;> first | assumption | omega | (split <;> omega) | (refine And.intro ?_ ?_ <;> split <;> omega)) | omega) (by (try dsimp only) <;> first | assumption | omega | ((try simp (disch := omega) only [w32_of, w64_of, w8_of]) <;> first | assumption | omega | (split <;> omega) | (refine And.intro ?_ ?_ <;> split <;> omega)) | omega) (by (try dsimp only) <;> first | assumption | omega | ((try simp (disch := omega) only [w32_of, w64_of, w8_of]) <;> first | assumption | omega | (split <;> omega) | (refine And.intro ?_ ?_ <;> split <;> omega)) | omega)) ?_ ?_
  · rintro u1 σ_2 y3
    try dsimp only at y3 ⊢
    obtain ⟨hσ_2, flσ_2, g2⟩ := y3
    have frσ_2 : FC [57344, 57600, 57856, 58112, 58368, (kE_size 223), (kE_placeX 223), (kE_placeY 223), kT_covers, kT_crossed, kT_cuts, kT_keys, kT_matrix, kT_rimOwner, kT_rimX, kT_rimY, kT_rims, kT_share, kT_whole] [] σ σ_2 := FC_le flσ_2 (by first | decide | (rcases hE with rfl | rfl | rfl <;> decide)) (by simp)
    refine wp_bt (v_slotNumbered (σ := σ_2) (slot_0 := slot_0) hσ_2 (by (try dsimp only) <;> first | assumption | omega | ((try simp (disch := omega) only [w32_of, w64_of, w8_of]) <;> first | assumption | omega | (split <;> omega) | (refine And.intro ?_ ?_ <;> split <;> omega)) | omega)) ?_ ?_
    · rintro x_8 σ_7 y6
      try dsimp only at y6 ⊢
      obtain ⟨g4, g5, hσ_7, flσ_7r⟩ := y6
      have flσ_7 := FC_of flσ_7r (by decide)
      have frσ_7 : FC [57344, 57600, 57856, 58112, 58368, (kE_size 223), (kE_placeX 223), (kE_placeY 223), kT_covers, kT_crossed, kT_cuts, kT_keys, kT_matrix, kT_rimOwner, kT_rimX, kT_rimY, kT_rims, kT_share, kT_whole] [] σ σ_7 := FC_tr frσ_2 flσ_7 (by first | decide | (rcases hE with rfl | rfl | rfl <;> decide)) (by first | decide | (rcases hE with rfl | rfl | rfl <;> decide)) (by simp) (by simp)
      have g7 := g4 _ rfl
      obtain ⟨g8, g9⟩ := g7
      try simp (disch := omega) only [w32_of, w64_of, w8_of] at g8
      try simp (disch := omega) only [w32_of, w64_of, w8_of] at g9
      refine wp_ck (by first | assumption | decide | omega) ?_
      refine wp_bt (v_slotNumbered (σ := σ_7) (slot_0 := other_0) hσ_7 (by (try dsimp only) <;> first | assumption | omega | ((try simp (disch := omega) only [w32_of, w64_of, w8_of]) <;> first | assumption | omega | (split <;> omega) | (refine And.intro ?_ ?_ <;> split <;> omega)) | omega)) ?_ ?_
      · rintro x_14 σ_13 y12
        try dsimp only at y12 ⊢
        obtain ⟨g10, g11, hσ_13, flσ_13r⟩ := y12
        have flσ_13 := FC_of flσ_13r (by decide)
        have frσ_13 : FC [57344, 57600, 57856, 58112, 58368, (kE_size 223), (kE_placeX 223), (kE_placeY 223), kT_covers, kT_crossed, kT_cuts, kT_keys, kT_matrix, kT_rimOwner, kT_rimX, kT_rimY, kT_rims, kT_share, kT_whole] [] σ σ_13 := FC_tr frσ_7 flσ_13 (by first | decide | (rcases hE with rfl | rfl | rfl <;> decide)) (by first | decide | (rcases hE with rfl | rfl | rfl <;> decide)) (by simp) (by simp)
        have g13 := g10 _ rfl
        obtain ⟨g14, g15⟩ := g13
        try simp (disch := omega) only [w32_of, w64_of, w8_of] at g14
        try simp (disch := omega) only [w32_of, w64_of, w8_of] at g15
        refine wp_ck (by first | assumption | decide | omega) ?_
        refine wp_bd (s_T_fillMatrix (σ := σ_13) (one_0 := x_8) (two_0 := x_14) hσ_13 (by first | assumption | decide | omega) (by first | assumption | decide | omega) (by exact SHA_f frσ_13 w0 x_8 (by assumption) (by assumption)) (by exact SHA_f frσ_13 w0 x_14 (by assumption) (by assumption))) ?_
        rintro ⟨x_20, σ_19⟩ - y16
        try dsimp only at y16 ⊢
        obtain ⟨hσ_19, flσ_19⟩ := y16
        have frσ_19 : FC [57344, 57600, 57856, 58112, 58368, (kE_size 223), (kE_placeX 223), (kE_placeY 223), kT_covers, kT_crossed, kT_cuts, kT_keys, kT_matrix, kT_rimOwner, kT_rimX, kT_rimY, kT_rims, kT_share, kT_whole] [] σ σ_19 := FC_tr frσ_13 flσ_19 (by first | decide | (rcases hE with rfl | rfl | rfl <;> decide)) (by first | decide | (rcases hE with rfl | rfl | rfl <;> decide)) (by simp) (by simp)
        refine wp_if (fun c17 => ?_) (fun c17 => ?_)
        · try simp (disch := omega) only [w32_of, w64_of, w8_of, decide_eq_true_eq, decide_eq_false_iff_not, Bool.not_eq_true] at c17
          refine wp_bd (s_T_matrixNumber (σ := σ_19) hσ_19) ?_
          rintro x_23 - -
          exact wp_some ⟨hσ_19, frσ_19, (by (try dsimp only) <;> (intro e9 q9; first | (injection q9; done) | (injection q9 with q8; omega)))⟩
        · try simp (disch := omega) only [w32_of, w64_of, w8_of, decide_eq_true_eq, decide_eq_false_iff_not, Bool.not_eq_true] at c17
          exact wp_some ⟨hσ_19, frσ_19, (by (try dsimp only) <;> (intro e9 q9; first | (injection q9; done) | (injection q9 with q8; omega)))⟩
      · rintro u19 σ_13 y22
        try dsimp only at y22 ⊢
        obtain ⟨g20, g21, hσ_13, flσ_13r⟩ := y22
        have flσ_13 := FC_of flσ_13r (by decide)
        have frσ_13 : FC [57344, 57600, 57856, 58112, 58368, (kE_size 223), (kE_placeX 223), (kE_placeY 223), kT_covers, kT_crossed, kT_cuts, kT_keys, kT_matrix, kT_rimOwner, kT_rimX, kT_rimY, kT_rims, kT_share, kT_whole] [] σ σ_13 := FC_tr frσ_7 flσ_13 (by first | decide | (rcases hE with rfl | rfl | rfl <;> decide)) (by first | decide | (rcases hE with rfl | rfl | rfl <;> decide)) (by simp) (by simp)
        have g23 := g21 _ rfl
        obtain ⟨g24, g25⟩ := g23
        try simp (disch := omega) only [w32_of, w64_of, w8_of] at g24
        try simp (disch := omega) only [w32_of, w64_of, w8_of] at g25
        exact ⟨hσ_13, frσ_13, (by (try dsimp only) <;> (intro e9 q9; first | (injection q9; done) | (injection q9 with q8; omega)))⟩
    · rintro u26 σ_7 y29
      try dsimp only at y29 ⊢
      obtain ⟨g27, g28, hσ_7, flσ_7r⟩ := y29
      have flσ_7 := FC_of flσ_7r (by decide)
      have frσ_7 : FC [57344, 57600, 57856, 58112, 58368, (kE_size 223), (kE_placeX 223), (kE_placeY 223), kT_covers, kT_crossed, kT_cuts, kT_keys, kT_matrix, kT_rimOwner, kT_rimX, kT_rimY, kT_rims, kT_share, kT_whole] [] σ σ_7 := FC_tr frσ_2 flσ_7 (by first | decide | (rcases hE with rfl | rfl | rfl <;> decide)) (by first | decide | (rcases hE with rfl | rfl | rfl <;> decide)) (by simp) (by simp)
      have g30 := g28 _ rfl
      obtain ⟨g31, g32⟩ := g30
      try simp (disch := omega) only [w32_of, w64_of, w8_of] at g31
      try simp (disch := omega) only [w32_of, w64_of, w8_of] at g32
      exact ⟨hσ_7, frσ_7, (by (try dsimp only) <;> (intro e9 q9; first | (injection q9; done) | (injection q9 with q8; omega)))⟩
  · rintro u33 σ_2 y35
    try dsimp only at y35 ⊢
    obtain ⟨hσ_2, flσ_2, g34⟩ := y35
    have frσ_2 : FC [57344, 57600, 57856, 58112, 58368, (kE_size 223), (kE_placeX 223), (kE_placeY 223), kT_covers, kT_crossed, kT_cuts, kT_keys, kT_matrix, kT_rimOwner, kT_rimX, kT_rimY, kT_rims, kT_share, kT_whole] [] σ σ_2 := FC_le flσ_2 (by first | decide | (rcases hE with rfl | rfl | rfl <;> decide)) (by simp)
    have g36 := g34 _ rfl
    try simp (disch := omega) only [w32_of, w64_of, w8_of] at g36
    exact ⟨hσ_2, frσ_2, (by (try dsimp only) <;> (intro e9 q9; first | (injection q9; done) | (injection q9 with q8; omega)))⟩
theorem s_Q_is {σ : SG} {what_0 : Int} {slot_0 : Int} {other_0 : Int} (hσ : II σ) (qwhat_0 : (-2147483648) ≤ what_0 ∧ what_0 ≤ 2147483647) (qslot_0 : (-2147483648) ≤ slot_0 ∧ slot_0 ≤ 2147483647) (qother_0 : (-2147483648) ≤ other_0 ∧ other_0 ≤ 2147483647) (w0 : SHA σ) : wp_ (fQ_is σ what_0 slot_0 other_0) (fun zz_ => II zz_.2 ∧ FC [57344, 57600, 57856, 58112, 58368, (kE_size 223), (kE_placeX 223), (kE_placeY 223), kT_covers, kT_crossed, kT_cuts, kT_keys, kT_matrix, kT_rimOwner, kT_rimX, kT_rimY, kT_rims, kT_share, kT_whole] [] σ zz_.2 ∧ (∀ e : Nat, zz_.1 = .inr e → e = 0 ∨ e = 1 ∨ e = 2 ∨ e = 3)) := by
  unfold fQ_is
  refine wp_bt (s_Q_mustBeRelatable (σ := σ) (what_0 := what_0) (slot_0 := slot_0) (other_0 := other_0) hσ (by (try dsimp only) <;> first | assumption | omega | ((try simp (disch := omega) only [w32_of, w64_of, w8_of]) <;> first | assumption | omega | (split <;> omega) | (refine And.intro ?_ ?_ <;> split <;> omega)) | omega) (by (try dsimp only) <;> first | assumption | omega | ((try simp (disch := omega) only [w32_of, w64_of, w8_of]) <;> first | assumption | omega | (split <;> omega) | (refine And.intro ?_ ?_ <;> split <;> omega)) | omega) (by (try dsimp only) <;> first | assumption | omega | ((try simp (disch := omega) only [w32_of, w64_of, w8_of]) <;> first | assumption | omega | (split <;> omega) | (refine And.intro ?_ ?_ <;> split <;> omega)) | omega)) ?_ ?_
  · rintro u1 σ_2 y3
    try dsimp only at y3 ⊢
    obtain ⟨hσ_2, flσ_2, g2⟩ := y3
    have frσ_2 : FC [57344, 57600, 57856, 58112, 58368, (kE_size 223), (kE_placeX 223), (kE_placeY 223), kT_covers, kT_crossed, kT_cuts, kT_keys, kT_matrix, kT_rimOwner, kT_rimX, kT_rimY, kT_rims, kT_share, kT_whole] [] σ σ_2 := FC_le flσ_2 (by first | decide | (rcases hE with rfl | rfl | rfl <;> decide)) (by simp)
    refine wp_bt (v_slotNumbered (σ := σ_2) (slot_0 := slot_0) hσ_2 (by (try dsimp only) <;> first | assumption | omega | ((try simp (disch := omega) only [w32_of, w64_of, w8_of]) <;> first | assumption | omega | (split <;> omega) | (refine And.intro ?_ ?_ <;> split <;> omega)) | omega)) ?_ ?_
    · rintro x_8 σ_7 y6
      try dsimp only at y6 ⊢
      obtain ⟨g4, g5, hσ_7, flσ_7r⟩ := y6
      have flσ_7 := FC_of flσ_7r (by decide)
      have frσ_7 : FC [57344, 57600, 57856, 58112, 58368, (kE_size 223), (kE_placeX 223), (kE_placeY 223), kT_covers, kT_crossed, kT_cuts, kT_keys, kT_matrix, kT_rimOwner, kT_rimX, kT_rimY, kT_rims, kT_share, kT_whole] [] σ σ_7 := FC_tr frσ_2 flσ_7 (by first | decide | (rcases hE with rfl | rfl | rfl <;> decide)) (by first | decide | (rcases hE with rfl | rfl | rfl <;> decide)) (by simp) (by simp)
      have g7 := g4 _ rfl
      obtain ⟨g8, g9⟩ := g7
      try simp (disch := omega) only [w32_of, w64_of, w8_of] at g8
      try simp (disch := omega) only [w32_of, w64_of, w8_of] at g9
      refine wp_ck (by first | assumption | decide | omega) ?_
      refine wp_bt (v_slotNumbered (σ := σ_7) (slot_0 := other_0) hσ_7 (by (try dsimp only) <;> first | assumption | omega | ((try simp (disch := omega) only [w32_of, w64_of, w8_of]) <;> first | assumption | omega | (split <;> omega) | (refine And.intro ?_ ?_ <;> split <;> omega)) | omega)) ?_ ?_
      · rintro x_14 σ_13 y12
        try dsimp only at y12 ⊢
        obtain ⟨g10, g11, hσ_13, flσ_13r⟩ := y12
        have flσ_13 := FC_of flσ_13r (by decide)
        have frσ_13 : FC [57344, 57600, 57856, 58112, 58368, (kE_size 223), (kE_placeX 223), (kE_placeY 223), kT_covers, kT_crossed, kT_cuts, kT_keys, kT_matrix, kT_rimOwner, kT_rimX, kT_rimY, kT_rims, kT_share, kT_whole] [] σ σ_13 := FC_tr frσ_7 flσ_13 (by first | decide | (rcases hE with rfl | rfl | rfl <;> decide)) (by first | decide | (rcases hE with rfl | rfl | rfl <;> decide)) (by simp) (by simp)
        have g13 := g10 _ rfl
        obtain ⟨g14, g15⟩ := g13
        try simp (disch := omega) only [w32_of, w64_of, w8_of] at g14
        try simp (disch := omega) only [w32_of, w64_of, w8_of] at g15
        refine wp_ck (by first | assumption | decide | omega) ?_
        refine wp_bd (s_T_fillMatrix (σ := σ_13) (one_0 := x_8) (two_0 := x_14) hσ_13 (by first | assumption | decide | omega) (by first | assumption | decide | omega) (by exact SHA_f frσ_13 w0 x_8 (by assumption) (by assumption)) (by exact SHA_f frσ_13 w0 x_14 (by assumption) (by assumption))) ?_
        rintro ⟨x_20, σ_19⟩ - y16
        try dsimp only at y16 ⊢
        obtain ⟨hσ_19, flσ_19⟩ := y16
        have frσ_19 : FC [57344, 57600, 57856, 58112, 58368, (kE_size 223), (kE_placeX 223), (kE_placeY 223), kT_covers, kT_crossed, kT_cuts, kT_keys, kT_matrix, kT_rimOwner, kT_rimX, kT_rimY, kT_rims, kT_share, kT_whole] [] σ σ_19 := FC_tr frσ_13 flσ_19 (by first | decide | (rcases hE with rfl | rfl | rfl <;> decide)) (by first | decide | (rcases hE with rfl | rfl | rfl <;> decide)) (by simp) (by simp)
        refine wp_if (fun c17 => ?_) (fun c17 => ?_)
        · try simp (disch := omega) only [w32_of, w64_of, w8_of, decide_eq_true_eq, decide_eq_false_iff_not, Bool.not_eq_true] at c17
          refine wp_bd (s_T_lieSo (σ := σ_19) (what_0 := what_0) hσ_19) ?_
          rintro x_23 - -
          exact wp_some ⟨hσ_19, frσ_19, (by (try dsimp only) <;> (intro e9 q9; first | (injection q9; done) | (injection q9 with q8; omega)))⟩
        · try simp (disch := omega) only [w32_of, w64_of, w8_of, decide_eq_true_eq, decide_eq_false_iff_not, Bool.not_eq_true] at c17
          exact wp_some ⟨hσ_19, frσ_19, (by (try dsimp only) <;> (intro e9 q9; first | (injection q9; done) | (injection q9 with q8; omega)))⟩
      · rintro u19 σ_13 y22
        try dsimp only at y22 ⊢
        obtain ⟨g20, g21, hσ_13, flσ_13r⟩ := y22
        have flσ_13 := FC_of flσ_13r (by decide)
        have frσ_13 : FC [57344, 57600, 57856, 58112, 58368, (kE_size 223), (kE_placeX 223), (kE_placeY 223), kT_covers, kT_crossed, kT_cuts, kT_keys, kT_matrix, kT_rimOwner, kT_rimX, kT_rimY, kT_rims, kT_share, kT_whole] [] σ σ_13 := FC_tr frσ_7 flσ_13 (by first | decide | (rcases hE with rfl | rfl | rfl <;> decide)) (by first | decide | (rcases hE with rfl | rfl | rfl <;> decide)) (by simp) (by simp)
        have g23 := g21 _ rfl
        obtain ⟨g24, g25⟩ := g23
        try simp (disch := omega) only [w32_of, w64_of, w8_of] at g24
        try simp (disch := omega) only [w32_of, w64_of, w8_of] at g25
        exact ⟨hσ_13, frσ_13, (by (try dsimp only) <;> (intro e9 q9; first | (injection q9; done) | (injection q9 with q8; omega)))⟩
    · rintro u26 σ_7 y29
      try dsimp only at y29 ⊢
      obtain ⟨g27, g28, hσ_7, flσ_7r⟩ := y29
      have flσ_7 := FC_of flσ_7r (by decide)
      have frσ_7 : FC [57344, 57600, 57856, 58112, 58368, (kE_size 223), (kE_placeX 223), (kE_placeY 223), kT_covers, kT_crossed, kT_cuts, kT_keys, kT_matrix, kT_rimOwner, kT_rimX, kT_rimY, kT_rims, kT_share, kT_whole] [] σ σ_7 := FC_tr frσ_2 flσ_7 (by first | decide | (rcases hE with rfl | rfl | rfl <;> decide)) (by first | decide | (rcases hE with rfl | rfl | rfl <;> decide)) (by simp) (by simp)
      have g30 := g28 _ rfl
      obtain ⟨g31, g32⟩ := g30
      try simp (disch := omega) only [w32_of, w64_of, w8_of] at g31
      try simp (disch := omega) only [w32_of, w64_of, w8_of] at g32
      exact ⟨hσ_7, frσ_7, (by (try dsimp only) <;> (intro e9 q9; first | (injection q9; done) | (injection q9 with q8; omega)))⟩
  · rintro u33 σ_2 y35
    try dsimp only at y35 ⊢
    obtain ⟨hσ_2, flσ_2, g34⟩ := y35
    have frσ_2 : FC [57344, 57600, 57856, 58112, 58368, (kE_size 223), (kE_placeX 223), (kE_placeY 223), kT_covers, kT_crossed, kT_cuts, kT_keys, kT_matrix, kT_rimOwner, kT_rimX, kT_rimY, kT_rims, kT_share, kT_whole] [] σ σ_2 := FC_le flσ_2 (by first | decide | (rcases hE with rfl | rfl | rfl <;> decide)) (by simp)
    have g36 := g34 _ rfl
    try simp (disch := omega) only [w32_of, w64_of, w8_of] at g36
    exact ⟨hσ_2, frσ_2, (by (try dsimp only) <;> (intro e9 q9; first | (injection q9; done) | (injection q9 with q8; omega)))⟩
theorem s_Q_locate {σ : SG} {slot_0 : Int} {x_0 : Int} {y_0 : Int} (hσ : II σ) (qslot_0 : (-2147483648) ≤ slot_0 ∧ slot_0 ≤ 2147483647) (qx_0 : (-2147483648) ≤ x_0 ∧ x_0 ≤ 2147483647) (qy_0 : (-2147483648) ≤ y_0 ∧ y_0 ≤ 2147483647) (w0 : SHA σ) : wp_ (fQ_locate σ slot_0 x_0 y_0) (fun zz_ => II zz_.2 ∧ FC [] [] σ zz_.2 ∧ (∀ e : Nat, zz_.1 = .inr e → e = 0 ∨ e = 1 ∨ e = 2 ∨ e = 3)) := by
  unfold fQ_locate
  refine wp_bt (v_slotNumbered (σ := σ) (slot_0 := slot_0) hσ (by (try dsimp only) <;> first | assumption | omega | ((try simp (disch := omega) only [w32_of, w64_of, w8_of]) <;> first | assumption | omega | (split <;> omega) | (refine And.intro ?_ ?_ <;> split <;> omega)) | omega)) ?_ ?_
  · rintro x_3 σ_2 y3
    try dsimp only at y3 ⊢
    obtain ⟨g1, g2, hσ_2, flσ_2r⟩ := y3
    have flσ_2 := FC_of flσ_2r (by decide)
    have frσ_2 : FC [] [] σ σ_2 := FC_le flσ_2 (by first | decide | (rcases hE with rfl | rfl | rfl <;> decide)) (by simp)
    have g4 := g1 _ rfl
    obtain ⟨g5, g6⟩ := g4
    try simp (disch := omega) only [w32_of, w64_of, w8_of] at g5
    try simp (disch := omega) only [w32_of, w64_of, w8_of] at g6
    refine wp_ck (by first | assumption | decide | omega) ?_
    refine wp_bt (s_Q_mustBeThere (σ := σ_2) (shape_0 := x_3) hσ_2) ?_ ?_
    · rintro u7 σ_8 y9
      try dsimp only at y9 ⊢
      obtain ⟨g8, hσ_8, flσ_8r⟩ := y9
      have flσ_8 := FC_of flσ_8r (by decide)
      have frσ_8 : FC [] [] σ σ_8 := FC_tr frσ_2 flσ_8 (by first | decide | (rcases hE with rfl | rfl | rfl <;> decide)) (by first | decide | (rcases hE with rfl | rfl | rfl <;> decide)) (by simp) (by simp)
      refine wp_if (fun c10 => ?_) (fun c10 => ?_)
      · try simp (disch := omega) only [w32_of, w64_of, w8_of, decide_eq_true_eq, decide_eq_false_iff_not, Bool.not_eq_true, fQ_isBeyond] at c10
        exact wp_some ⟨hσ_8, frσ_8, (by (try dsimp only) <;> (intro e9 q9; first | (injection q9; done) | (injection q9 with q8; omega)))⟩
      · try simp (disch := omega) only [w32_of, w64_of, w8_of, decide_eq_true_eq, decide_eq_false_iff_not, Bool.not_eq_true, fQ_isBeyond] at c10
        refine wp_if (fun c11 => ?_) (fun c11 => ?_)
        · try simp (disch := omega) only [w32_of, w64_of, w8_of, decide_eq_true_eq, decide_eq_false_iff_not, Bool.not_eq_true, fQ_isBeyond] at c11
          exact wp_some ⟨hσ_8, frσ_8, (by (try dsimp only) <;> (intro e9 q9; first | (injection q9; done) | (injection q9 with q8; omega)))⟩
        · try simp (disch := omega) only [w32_of, w64_of, w8_of, decide_eq_true_eq, decide_eq_false_iff_not, Bool.not_eq_true, fQ_isBeyond] at c11
          refine wp_bd (s_Q_canBeRelated (σ := σ_8) (shape_0 := x_3) hσ_8 (by first | assumption | decide | omega)) ?_
          rintro x_24 - -
          refine wp_if (fun c13 => ?_) (fun c13 => ?_)
          · try simp (disch := omega) only [w32_of, w64_of, w8_of, decide_eq_true_eq, decide_eq_false_iff_not, Bool.not_eq_true] at c13
            refine wp_bd (s_T_hasTooManyParts (σ := σ_8) (shape_0 := x_3) hσ_8 (by first | assumption | decide | omega) (by exact SHA_f frσ_8 w0 x_3 (by assumption) (by assumption))) ?_
            rintro x_27 - -
            refine wp_if (fun c15 => ?_) (fun c15 => ?_)
            · try simp (disch := omega) only [w32_of, w64_of, w8_of, decide_eq_true_eq, decide_eq_false_iff_not, Bool.not_eq_true] at c15
              exact wp_some ⟨hσ_8, frσ_8, (by (try dsimp only) <;> (intro e9 q9; first | (injection q9; done) | (injection q9 with q8; omega)))⟩
            · try simp (disch := omega) only [w32_of, w64_of, w8_of, decide_eq_true_eq, decide_eq_false_iff_not, Bool.not_eq_true] at c15
              refine wp_bd (s_T_whereIs (σ := σ_8) (shape_0 := x_3) (x_0 := x_0) (y_0 := y_0) hσ_8 (by first | assumption | decide | omega) (by exact SHA_f frσ_8 w0 x_3 (by assumption) (by assumption))) ?_
              rintro x_30 - g16
              try simp (disch := omega) only [w32_of, w64_of, w8_of] at g16
              exact wp_some ⟨hσ_8, frσ_8, (by (try dsimp only) <;> (intro e9 q9; first | (injection q9; done) | (injection q9 with q8; omega)))⟩
          · try simp (disch := omega) only [w32_of, w64_of, w8_of, decide_eq_true_eq, decide_eq_false_iff_not, Bool.not_eq_true] at c13
            exact wp_some ⟨hσ_8, frσ_8, (by (try dsimp only) <;> (intro e9 q9; first | (injection q9; done) | (injection q9 with q8; omega)))⟩
    · rintro u17 σ_8 y19
      try dsimp only at y19 ⊢
      obtain ⟨g18, hσ_8, flσ_8r⟩ := y19
      have flσ_8 := FC_of flσ_8r (by decide)
      have frσ_8 : FC [] [] σ σ_8 := FC_tr frσ_2 flσ_8 (by first | decide | (rcases hE with rfl | rfl | rfl <;> decide)) (by first | decide | (rcases hE with rfl | rfl | rfl <;> decide)) (by simp) (by simp)
      have g20 := g18 _ rfl
      obtain ⟨g21, g22⟩ := g20
      try simp (disch := omega) only [w32_of, w64_of, w8_of] at g21
      try simp (disch := omega) only [w32_of, w64_of, w8_of] at g22
      exact ⟨hσ_8, frσ_8, (by (try dsimp only) <;> (intro e9 q9; first | (injection q9; done) | (injection q9 with q8; omega)))⟩
  · rintro u23 σ_2 y26
    try dsimp only at y26 ⊢
    obtain ⟨g24, g25, hσ_2, flσ_2r⟩ := y26
    have flσ_2 := FC_of flσ_2r (by decide)
    have frσ_2 : FC [] [] σ σ_2 := FC_le flσ_2 (by first | decide | (rcases hE with rfl | rfl | rfl <;> decide)) (by simp)
    have g27 := g25 _ rfl
    obtain ⟨g28, g29⟩ := g27
    try simp (disch := omega) only [w32_of, w64_of, w8_of] at g28
    try simp (disch := omega) only [w32_of, w64_of, w8_of] at g29
    exact ⟨hσ_2, frσ_2, (by (try dsimp only) <;> (intro e9 q9; first | (injection q9; done) | (injection q9 with q8; omega)))⟩
theorem s_Q_hull {σ : SG} {slot_0 : Int} {to_0 : Int} (hσ : II σ) (qslot_0 : (-2147483648) ≤ slot_0 ∧ slot_0 ≤ 2147483647) (qto_0 : (-2147483648) ≤ to_0 ∧ to_0 ≤ 2147483647) (w0 : SHA σ) : wp_ (fQ_hull σ slot_0 to_0) (fun zz_ => II zz_.2 ∧ FC [kP_corner, kP_keys, kP_numberOf, kP_placeWith, kP_placeX, kP_placeY, kP_places] allS σ zz_.2 ∧ (SHA zz_.2) ∧ (∀ e : Nat, zz_.1 = .inr e → e = 0 ∨ e = 1 ∨ e = 3)) := by
  unfold fQ_hull
  refine wp_bt (v_slotNumbered (σ := σ) (slot_0 := slot_0) hσ (by (try dsimp only) <;> first | assumption | omega | ((try simp (disch := omega) only [w32_of, w64_of, w8_of]) <;> first | assumption | omega | (split <;> omega) | (refine And.intro ?_ ?_ <;> split <;> omega)) | omega)) ?_ ?_
  · rintro x_3 σ_2 y3
    try dsimp only at y3 ⊢
    obtain ⟨g1, g2, hσ_2, flσ_2r⟩ := y3
    have flσ_2 := FC_of flσ_2r (by decide)
    have frσ_2 : FC [kP_corner, kP_keys, kP_numberOf, kP_placeWith, kP_placeX, kP_placeY, kP_places] allS σ σ_2 := FC_le flσ_2 (by first | decide | (rcases hE with rfl | rfl | rfl <;> decide)) (by first | exact allS_1 (by first | assumption | decide) | exact allS_h | exact allS_0)
    have g4 := g1 _ rfl
    obtain ⟨g5, g6⟩ := g4
    try simp (disch := omega) only [w32_of, w64_of, w8_of] at g5
    try simp (disch := omega) only [w32_of, w64_of, w8_of] at g6
    refine wp_ck (by first | assumption | decide | omega) ?_
    refine wp_bt (v_slotNumbered (σ := σ_2) (slot_0 := to_0) hσ_2 (by (try dsimp only) <;> first | assumption | omega | ((try simp (disch := omega) only [w32_of, w64_of, w8_of]) <;> first | assumption | omega | (split <;> omega) | (refine And.intro ?_ ?_ <;> split <;> omega)) | omega)) ?_ ?_
    · rintro x_9 σ_8 y9
      try dsimp only at y9 ⊢
      obtain ⟨g7, g8, hσ_8, flσ_8r⟩ := y9
      have flσ_8 := FC_of flσ_8r (by decide)
      have frσ_8 : FC [kP_corner, kP_keys, kP_numberOf, kP_placeWith, kP_placeX, kP_placeY, kP_places] allS σ σ_8 := FC_tr frσ_2 flσ_8 (by first | decide | (rcases hE with rfl | rfl | rfl <;> decide)) (by first | decide | (rcases hE with rfl | rfl | rfl <;> decide)) (by first | exact allS_1 (by first | assumption | decide) | exact allS_h | exact allS_0) (by first | exact allS_1 (by first | assumption | decide) | exact allS_h | exact allS_0)
      have g10 := g7 _ rfl
      obtain ⟨g11, g12⟩ := g10
      try simp (disch := omega) only [w32_of, w64_of, w8_of] at g11
      try simp (disch := omega) only [w32_of, w64_of, w8_of] at g12
      refine wp_ck (by first | assumption | decide | omega) ?_
      refine wp_bt (s_Q_mustBeThere (σ := σ_8) (shape_0 := x_3) hσ_8) ?_ ?_
      · rintro u13 σ_14 y15
        try dsimp only at y15 ⊢
        obtain ⟨g14, hσ_14, flσ_14r⟩ := y15
        have flσ_14 := FC_of flσ_14r (by decide)
        have frσ_14 : FC [kP_corner, kP_keys, kP_numberOf, kP_placeWith, kP_placeX, kP_placeY, kP_places] allS σ σ_14 := FC_tr frσ_8 flσ_14 (by first | decide | (rcases hE with rfl | rfl | rfl <;> decide)) (by first | decide | (rcases hE with rfl | rfl | rfl <;> decide)) (by first | exact allS_1 (by first | assumption | decide) | exact allS_h | exact allS_0) (by first | exact allS_1 (by first | assumption | decide) | exact allS_h | exact allS_0)
        have s14 := SHA_f flσ_14 (SHA_f flσ_8 (SHA_f flσ_2 w0))
        refine wp_bd (s_P_gather (σ := σ_14) (shape_0 := x_3) hσ_14 (by first | assumption | decide | omega)) ?_
        rintro ⟨x_20, σ_19⟩ - y16
        try dsimp only at y16 ⊢
        obtain ⟨hσ_19, flσ_19⟩ := y16
        have frσ_19 : FC [kP_corner, kP_keys, kP_numberOf, kP_placeWith, kP_placeX, kP_placeY, kP_places] allS σ σ_19 := FC_tr frσ_14 flσ_19 (by first | decide | (rcases hE with rfl | rfl | rfl <;> decide)) (by first | decide | (rcases hE with rfl | rfl | rfl <;> decide)) (by first | exact allS_1 (by first | assumption | decide) | exact allS_h | exact allS_0) (by first | exact allS_1 (by first | assumption | decide) | exact allS_h | exact allS_0)
        refine wp_if (fun c17 => ?_) (fun c17 => ?_)
        · try simp (disch := omega) only [w32_of, w64_of, w8_of, decide_eq_true_eq, decide_eq_false_iff_not, Bool.not_eq_true] at c17
          refine wp_bd (s_P_span (σ := σ_19) (into_0 := x_9) hσ_19 (by first | assumption | decide | omega)) ?_
          rintro ⟨x_24, σ_23⟩ - y18
          try dsimp only at y18 ⊢
          obtain ⟨hσ_23, flσ_23, hp1, hp2⟩ := y18
          have frσ_23 : FC [kP_corner, kP_keys, kP_numberOf, kP_placeWith, kP_placeX, kP_placeY, kP_places] allS σ σ_23 := FC_tr frσ_19 flσ_23 (by first | decide | (rcases hE with rfl | rfl | rfl <;> decide)) (by first | decide | (rcases hE with rfl | rfl | rfl <;> decide)) (by first | exact allS_1 (by first | assumption | decide) | exact allS_h | exact allS_0) (by first | exact allS_1 (by first | assumption | decide) | exact allS_h | exact allS_0)
          try simp (disch := omega) only [w32_of, w64_of, w8_of] at hp1
          try simp (disch := omega) only [w32_of, w64_of, w8_of] at hp2
          exact wp_some ⟨hσ_23, frσ_23, (by (try dsimp only) <;> (first | exact SHA_w flσ_23 (by assumption) (SHA_f flσ_19 s14) hp2 | exact SHA_f flσ_19 s14 | exact SHA_f flσ_14 (SHA_f flσ_8 (SHA_f flσ_2 w0)) | exact SHA_f flσ_8 (SHA_f flσ_2 w0) | exact SHA_f flσ_2 w0)), (by (try dsimp only) <;> (intro e9 q9; first | (injection q9; done) | (injection q9 with q8; omega)))⟩
        · try simp (disch := omega) only [w32_of, w64_of, w8_of, decide_eq_true_eq, decide_eq_false_iff_not, Bool.not_eq_true] at c17
          exact wp_some ⟨hσ_19, frσ_19, (by (try dsimp only) <;> (first | exact SHA_w flσ_23 (by assumption) (SHA_f flσ_19 s14) hp2 | exact SHA_f flσ_19 s14 | exact SHA_f flσ_14 (SHA_f flσ_8 (SHA_f flσ_2 w0)) | exact SHA_f flσ_8 (SHA_f flσ_2 w0) | exact SHA_f flσ_2 w0)), (by (try dsimp only) <;> (intro e9 q9; first | (injection q9; done) | (injection q9 with q8; omega)))⟩
      · rintro u19 σ_14 y21
        try dsimp only at y21 ⊢
        obtain ⟨g20, hσ_14, flσ_14r⟩ := y21
        have flσ_14 := FC_of flσ_14r (by decide)
        have frσ_14 : FC [kP_corner, kP_keys, kP_numberOf, kP_placeWith, kP_placeX, kP_placeY, kP_places] allS σ σ_14 := FC_tr frσ_8 flσ_14 (by first | decide | (rcases hE with rfl | rfl | rfl <;> decide)) (by first | decide | (rcases hE with rfl | rfl | rfl <;> decide)) (by first | exact allS_1 (by first | assumption | decide) | exact allS_h | exact allS_0) (by first | exact allS_1 (by first | assumption | decide) | exact allS_h | exact allS_0)
        have g22 := g20 _ rfl
        obtain ⟨g23, g24⟩ := g22
        try simp (disch := omega) only [w32_of, w64_of, w8_of] at g23
        try simp (disch := omega) only [w32_of, w64_of, w8_of] at g24
        exact ⟨hσ_14, frσ_14, (by (try dsimp only) <;> (first | exact SHA_w flσ_23 (by assumption) (SHA_f flσ_19 s14) hp2 | exact SHA_f flσ_19 s14 | exact SHA_f flσ_14 (SHA_f flσ_8 (SHA_f flσ_2 w0)) | exact SHA_f flσ_8 (SHA_f flσ_2 w0) | exact SHA_f flσ_2 w0)), (by (try dsimp only) <;> (intro e9 q9; first | (injection q9; done) | (injection q9 with q8; omega)))⟩
    · rintro u25 σ_8 y28
      try dsimp only at y28 ⊢
      obtain ⟨g26, g27, hσ_8, flσ_8r⟩ := y28
      have flσ_8 := FC_of flσ_8r (by decide)
      have frσ_8 : FC [kP_corner, kP_keys, kP_numberOf, kP_placeWith, kP_placeX, kP_placeY, kP_places] allS σ σ_8 := FC_tr frσ_2 flσ_8 (by first | decide | (rcases hE with rfl | rfl | rfl <;> decide)) (by first | decide | (rcases hE with rfl | rfl | rfl <;> decide)) (by first | exact allS_1 (by first | assumption | decide) | exact allS_h | exact allS_0) (by first | exact allS_1 (by first | assumption | decide) | exact allS_h | exact allS_0)
      have g29 := g27 _ rfl
      obtain ⟨g30, g31⟩ := g29
      try simp (disch := omega) only [w32_of, w64_of, w8_of] at g30
      try simp (disch := omega) only [w32_of, w64_of, w8_of] at g31
      exact ⟨hσ_8, frσ_8, (by (try dsimp only) <;> (first | exact SHA_w flσ_23 (by assumption) (SHA_f flσ_19 s14) hp2 | exact SHA_f flσ_19 s14 | exact SHA_f flσ_14 (SHA_f flσ_8 (SHA_f flσ_2 w0)) | exact SHA_f flσ_8 (SHA_f flσ_2 w0) | exact SHA_f flσ_2 w0)), (by (try dsimp only) <;> (intro e9 q9; first | (injection q9; done) | (injection q9 with q8; omega)))⟩
  · rintro u32 σ_2 y35
    try dsimp only at y35 ⊢
    obtain ⟨g33, g34, hσ_2, flσ_2r⟩ := y35
    have flσ_2 := FC_of flσ_2r (by decide)
    have frσ_2 : FC [kP_corner, kP_keys, kP_numberOf, kP_placeWith, kP_placeX, kP_placeY, kP_places] allS σ σ_2 := FC_le flσ_2 (by first | decide | (rcases hE with rfl | rfl | rfl <;> decide)) (by first | exact allS_1 (by first | assumption | decide) | exact allS_h | exact allS_0)
    have g36 := g34 _ rfl
    obtain ⟨g37, g38⟩ := g36
    try simp (disch := omega) only [w32_of, w64_of, w8_of] at g37
    try simp (disch := omega) only [w32_of, w64_of, w8_of] at g38
    exact ⟨hσ_2, frσ_2, (by (try dsimp only) <;> (first | exact SHA_w flσ_23 (by assumption) (SHA_f flσ_19 s14) hp2 | exact SHA_f flσ_19 s14 | exact SHA_f flσ_14 (SHA_f flσ_8 (SHA_f flσ_2 w0)) | exact SHA_f flσ_8 (SHA_f flσ_2 w0) | exact SHA_f flσ_2 w0)), (by (try dsimp only) <;> (intro e9 q9; first | (injection q9; done) | (injection q9 with q8; omega)))⟩
theorem s_Q_triangles {σ : SG} {slot_0 : Int} {to_0 : Int} (hσ : II σ) (qslot_0 : (-2147483648) ≤ slot_0 ∧ slot_0 ≤ 2147483647) (qto_0 : (-2147483648) ≤ to_0 ∧ to_0 ≤ 2147483647) (w0 : SHA σ) : wp_ (fQ_triangles σ slot_0 to_0) (fun zz_ => II zz_.2 ∧ FC [kP_keys, kP_numberOf, kP_placeWith, kP_placeX, kP_placeY, kP_places, kP_round, kP_roundSize, kP_told, kP_triangle, kP_triangleCount, kP_wayFrom, kP_wayTo, kP_ways] allS σ zz_.2 ∧ (SHA zz_.2) ∧ (∀ e : Nat, zz_.1 = .inr e → e = 0 ∨ e = 1 ∨ e = 3)) := by
  unfold fQ_triangles
  refine wp_bt (v_slotNumbered (σ := σ) (slot_0 := slot_0) hσ (by (try dsimp only) <;> first | assumption | omega | ((try simp (disch := omega) only [w32_of, w64_of, w8_of]) <;> first | assumption | omega | (split <;> omega) | (refine And.intro ?_ ?_ <;> split <;> omega)) | omega)) ?_ ?_
  · rintro x_3 σ_2 y3
    try dsimp only at y3 ⊢
    obtain ⟨g1, g2, hσ_2, flσ_2r⟩ := y3
    have flσ_2 := FC_of flσ_2r (by decide)
    have frσ_2 : FC [kP_keys, kP_numberOf, kP_placeWith, kP_placeX, kP_placeY, kP_places, kP_round, kP_roundSize, kP_told, kP_triangle, kP_triangleCount, kP_wayFrom, kP_wayTo, kP_ways] allS σ σ_2 := FC_le flσ_2 (by first | decide | (rcases hE with rfl | rfl | rfl <;> decide)) (by first | exact allS_1 (by first | assumption | decide) | exact allS_h | exact allS_0)
    have g4 := g1 _ rfl
    obtain ⟨g5, g6⟩ := g4
    try simp (disch := omega) only [w32_of, w64_of, w8_of] at g5
    try simp (disch := omega) only [w32_of, w64_of, w8_of] at g6
    refine wp_ck (by first | assumption | decide | omega) ?_
    refine wp_bt (v_slotNumbered (σ := σ_2) (slot_0 := to_0) hσ_2 (by (try dsimp only) <;> first | assumption | omega | ((try simp (disch := omega) only [w32_of, w64_of, w8_of]) <;> first | assumption | omega | (split <;> omega) | (refine And.intro ?_ ?_ <;> split <;> omega)) | omega)) ?_ ?_
    · rintro x_9 σ_8 y9
      try dsimp only at y9 ⊢
      obtain ⟨g7, g8, hσ_8, flσ_8r⟩ := y9
      have flσ_8 := FC_of flσ_8r (by decide)
      have frσ_8 : FC [kP_keys, kP_numberOf, kP_placeWith, kP_placeX, kP_placeY, kP_places, kP_round, kP_roundSize, kP_told, kP_triangle, kP_triangleCount, kP_wayFrom, kP_wayTo, kP_ways] allS σ σ_8 := FC_tr frσ_2 flσ_8 (by first | decide | (rcases hE with rfl | rfl | rfl <;> decide)) (by first | decide | (rcases hE with rfl | rfl | rfl <;> decide)) (by first | exact allS_1 (by first | assumption | decide) | exact allS_h | exact allS_0) (by first | exact allS_1 (by first | assumption | decide) | exact allS_h | exact allS_0)
      have g10 := g7 _ rfl
      obtain ⟨g11, g12⟩ := g10
      try simp (disch := omega) only [w32_of, w64_of, w8_of] at g11
      try simp (disch := omega) only [w32_of, w64_of, w8_of] at g12
      refine wp_ck (by first | assumption | decide | omega) ?_
      refine wp_bt (s_Q_mustBeThere (σ := σ_8) (shape_0 := x_3) hσ_8) ?_ ?_
      · rintro u13 σ_14 y15
        try dsimp only at y15 ⊢
        obtain ⟨g14, hσ_14, flσ_14r⟩ := y15
        have flσ_14 := FC_of flσ_14r (by decide)
        have frσ_14 : FC [kP_keys, kP_numberOf, kP_placeWith, kP_placeX, kP_placeY, kP_places, kP_round, kP_roundSize, kP_told, kP_triangle, kP_triangleCount, kP_wayFrom, kP_wayTo, kP_ways] allS σ σ_14 := FC_tr frσ_8 flσ_14 (by first | decide | (rcases hE with rfl | rfl | rfl <;> decide)) (by first | decide | (rcases hE with rfl | rfl | rfl <;> decide)) (by first | exact allS_1 (by first | assumption | decide) | exact allS_h | exact allS_0) (by first | exact allS_1 (by first | assumption | decide) | exact allS_h | exact allS_0)
        have s14 := SHA_f flσ_14 (SHA_f flσ_8 (SHA_f flσ_2 w0))
        refine wp_bd (s_P_gather (σ := σ_14) (shape_0 := x_3) hσ_14 (by first | assumption | decide | omega)) ?_
        rintro ⟨x_31, σ_30⟩ - y16
        try dsimp only at y16 ⊢
        obtain ⟨hσ_30, flσ_30⟩ := y16
        have frσ_30 : FC [kP_keys, kP_numberOf, kP_placeWith, kP_placeX, kP_placeY, kP_places, kP_round, kP_roundSize, kP_told, kP_triangle, kP_triangleCount, kP_wayFrom, kP_wayTo, kP_ways] allS σ σ_30 := FC_tr frσ_14 flσ_30 (by first | decide | (rcases hE with rfl | rfl | rfl <;> decide)) (by first | decide | (rcases hE with rfl | rfl | rfl <;> decide)) (by first | exact allS_1 (by first | assumption | decide) | exact allS_h | exact allS_0) (by first | exact allS_1 (by first | assumption | decide) | exact allS_h | exact allS_0)
        refine wp_if (fun c17 => ?_) (fun c17 => ?_)
        · try simp (disch := omega) only [w32_of, w64_of, w8_of, decide_eq_true_eq, decide_eq_false_iff_not, Bool.not_eq_true] at c17
          refine wp_bd (s_P_triangulate (σ := σ_30) hσ_30) ?_
          rintro ⟨x_35, σ_34⟩ - y18
          try dsimp only at y18 ⊢
          obtain ⟨hσ_34, flσ_34⟩ := y18
          have frσ_34 : FC [kP_keys, kP_numberOf, kP_placeWith, kP_placeX, kP_placeY, kP_places, kP_round, kP_roundSize, kP_told, kP_triangle, kP_triangleCount, kP_wayFrom, kP_wayTo, kP_ways] allS σ σ_34 := FC_tr frσ_30 flσ_34 (by first | decide | (rcases hE with rfl | rfl | rfl <;> decide)) (by first | decide | (rcases hE with rfl | rfl | rfl <;> decide)) (by first | exact allS_1 (by first | assumption | decide) | exact allS_h | exact allS_0) (by first | exact allS_1 (by first | assumption | decide) | exact allS_h | exact allS_0)
          refine wp_if (fun c19 => ?_) (fun c19 => ?_)
          · try simp (disch := omega) only [w32_of, w64_of, w8_of, decide_eq_true_eq, decide_eq_false_iff_not, Bool.not_eq_true] at c19
            refine wp_bd (s_P_tellTriangles (σ := σ_34) (into_0 := x_9) hσ_34 (by first | assumption | decide | omega)) ?_
            rintro ⟨x_39, σ_38⟩ - y20
            try dsimp only at y20 ⊢
            obtain ⟨hσ_38, flσ_38, hp1, hp2⟩ := y20
            have frσ_38 : FC [kP_keys, kP_numberOf, kP_placeWith, kP_placeX, kP_placeY, kP_places, kP_round, kP_roundSize, kP_told, kP_triangle, kP_triangleCount, kP_wayFrom, kP_wayTo, kP_ways] allS σ σ_38 := FC_tr frσ_34 flσ_38 (by first | decide | (rcases hE with rfl | rfl | rfl <;> decide)) (by first | decide | (rcases hE with rfl | rfl | rfl <;> decide)) (by first | exact allS_1 (by first | assumption | decide) | exact allS_h | exact allS_0) (by first | exact allS_1 (by first | assumption | decide) | exact allS_h | exact allS_0)
            try simp (disch := omega) only [w32_of, w64_of, w8_of] at hp1
            try simp (disch := omega) only [w32_of, w64_of, w8_of] at hp2
            exact wp_some ⟨hσ_38, frσ_38, (by (try dsimp only) <;> (first | exact SHA_w flσ_38 (by assumption) (SHA_f flσ_34 (SHA_f flσ_30 s14)) hp2 | exact SHA_f flσ_34 (SHA_f flσ_30 s14) | exact SHA_f flσ_30 s14 | exact SHA_f flσ_14 (SHA_f flσ_8 (SHA_f flσ_2 w0)) | exact SHA_f flσ_8 (SHA_f flσ_2 w0) | exact SHA_f flσ_2 w0)), (by (try dsimp only) <;> (intro e9 q9; first | (injection q9; done) | (injection q9 with q8; omega)))⟩
          · try simp (disch := omega) only [w32_of, w64_of, w8_of, decide_eq_true_eq, decide_eq_false_iff_not, Bool.not_eq_true] at c19
            exact wp_some ⟨hσ_34, frσ_34, (by (try dsimp only) <;> (first | exact SHA_w flσ_38 (by assumption) (SHA_f flσ_34 (SHA_f flσ_30 s14)) hp2 | exact SHA_f flσ_34 (SHA_f flσ_30 s14) | exact SHA_f flσ_30 s14 | exact SHA_f flσ_14 (SHA_f flσ_8 (SHA_f flσ_2 w0)) | exact SHA_f flσ_8 (SHA_f flσ_2 w0) | exact SHA_f flσ_2 w0)), (by (try dsimp only) <;> (intro e9 q9; first | (injection q9; done) | (injection q9 with q8; omega)))⟩
        · try simp (disch := omega) only [w32_of, w64_of, w8_of, decide_eq_true_eq, decide_eq_false_iff_not, Bool.not_eq_true] at c17
          exact wp_some ⟨hσ_30, frσ_30, (by (try dsimp only) <;> (first | exact SHA_w flσ_38 (by assumption) (SHA_f flσ_34 (SHA_f flσ_30 s14)) hp2 | exact SHA_f flσ_34 (SHA_f flσ_30 s14) | exact SHA_f flσ_30 s14 | exact SHA_f flσ_14 (SHA_f flσ_8 (SHA_f flσ_2 w0)) | exact SHA_f flσ_8 (SHA_f flσ_2 w0) | exact SHA_f flσ_2 w0)), (by (try dsimp only) <;> (intro e9 q9; first | (injection q9; done) | (injection q9 with q8; omega)))⟩
      · rintro u21 σ_14 y23
        try dsimp only at y23 ⊢
        obtain ⟨g22, hσ_14, flσ_14r⟩ := y23
        have flσ_14 := FC_of flσ_14r (by decide)
        have frσ_14 : FC [kP_keys, kP_numberOf, kP_placeWith, kP_placeX, kP_placeY, kP_places, kP_round, kP_roundSize, kP_told, kP_triangle, kP_triangleCount, kP_wayFrom, kP_wayTo, kP_ways] allS σ σ_14 := FC_tr frσ_8 flσ_14 (by first | decide | (rcases hE with rfl | rfl | rfl <;> decide)) (by first | decide | (rcases hE with rfl | rfl | rfl <;> decide)) (by first | exact allS_1 (by first | assumption | decide) | exact allS_h | exact allS_0) (by first | exact allS_1 (by first | assumption | decide) | exact allS_h | exact allS_0)
        have g24 := g22 _ rfl
        obtain ⟨g25, g26⟩ := g24
        try simp (disch := omega) only [w32_of, w64_of, w8_of] at g25
        try simp (disch := omega) only [w32_of, w64_of, w8_of] at g26
        exact ⟨hσ_14, frσ_14, (by (try dsimp only) <;> (first | exact SHA_w flσ_38 (by assumption) (SHA_f flσ_34 (SHA_f flσ_30 s14)) hp2 | exact SHA_f flσ_34 (SHA_f flσ_30 s14) | exact SHA_f flσ_30 s14 | exact SHA_f flσ_14 (SHA_f flσ_8 (SHA_f flσ_2 w0)) | exact SHA_f flσ_8 (SHA_f flσ_2 w0) | exact SHA_f flσ_2 w0)), (by (try dsimp only) <;> (intro e9 q9; first | (injection q9; done) | (injection q9 with q8; omega)))⟩
    · rintro u27 σ_8 y30
      try dsimp only at y30 ⊢
      obtain ⟨g28, g29, hσ_8, flσ_8r⟩ := y30
      have flσ_8 := FC_of flσ_8r (by decide)
      have frσ_8 : FC [kP_keys, kP_numberOf, kP_placeWith, kP_placeX, kP_placeY, kP_places, kP_round, kP_roundSize, kP_told, kP_triangle, kP_triangleCount, kP_wayFrom, kP_wayTo, kP_ways] allS σ σ_8 := FC_tr frσ_2 flσ_8 (by first | decide | (rcases hE with rfl | rfl | rfl <;> decide)) (by first | decide | (rcases hE with rfl | rfl | rfl <;> decide)) (by first | exact allS_1 (by first | assumption | decide) | exact allS_h | exact allS_0) (by first | exact allS_1 (by first | assumption | decide) | exact allS_h | exact allS_0)
      have g31 := g29 _ rfl
      obtain ⟨g32, g33⟩ := g31
      try simp (disch := omega) only [w32_of, w64_of, w8_of] at g32
      try simp (disch := omega) only [w32_of, w64_of, w8_of] at g33
      exact ⟨hσ_8, frσ_8, (by (try dsimp only) <;> (first | exact SHA_w flσ_38 (by assumption) (SHA_f flσ_34 (SHA_f flσ_30 s14)) hp2 | exact SHA_f flσ_34 (SHA_f flσ_30 s14) | exact SHA_f flσ_30 s14 | exact SHA_f flσ_14 (SHA_f flσ_8 (SHA_f flσ_2 w0)) | exact SHA_f flσ_8 (SHA_f flσ_2 w0) | exact SHA_f flσ_2 w0)), (by (try dsimp only) <;> (intro e9 q9; first | (injection q9; done) | (injection q9 with q8; omega)))⟩
  · rintro u34 σ_2 y37
    try dsimp only at y37 ⊢
    obtain ⟨g35, g36, hσ_2, flσ_2r⟩ := y37
    have flσ_2 := FC_of flσ_2r (by decide)
    have frσ_2 : FC [kP_keys, kP_numberOf, kP_placeWith, kP_placeX, kP_placeY, kP_places, kP_round, kP_roundSize, kP_told, kP_triangle, kP_triangleCount, kP_wayFrom, kP_wayTo, kP_ways] allS σ σ_2 := FC_le flσ_2 (by first | decide | (rcases hE with rfl | rfl | rfl <;> decide)) (by first | exact allS_1 (by first | assumption | decide) | exact allS_h | exact allS_0)
    have g38 := g36 _ rfl
    obtain ⟨g39, g40⟩ := g38
    try simp (disch := omega) only [w32_of, w64_of, w8_of] at g39
    try simp (disch := omega) only [w32_of, w64_of, w8_of] at g40
    exact ⟨hσ_2, frσ_2, (by (try dsimp only) <;> (first | exact SHA_w flσ_38 (by assumption) (SHA_f flσ_34 (SHA_f flσ_30 s14)) hp2 | exact SHA_f flσ_34 (SHA_f flσ_30 s14) | exact SHA_f flσ_30 s14 | exact SHA_f flσ_14 (SHA_f flσ_8 (SHA_f flσ_2 w0)) | exact SHA_f flσ_8 (SHA_f flσ_2 w0) | exact SHA_f flσ_2 w0)), (by (try dsimp only) <;> (intro e9 q9; first | (injection q9; done) | (injection q9 with q8; omega)))⟩
theorem s_Q_simplify {σ : SG} {slot_0 : Int} {to_0 : Int} {distance_0 : Int} (hσ : II σ) (qslot_0 : (-2147483648) ≤ slot_0 ∧ slot_0 ≤ 2147483647) (qto_0 : (-2147483648) ≤ to_0 ∧ to_0 ≤ 2147483647) (qdistance_0 : (-2147483648) ≤ distance_0 ∧ distance_0 ≤ 2147483647) (w0 : SHA σ) : wp_ (fQ_simplify σ slot_0 to_0 distance_0) (fun zz_ => II zz_.2 ∧ FC [kP_stack, kP_stays] allS σ zz_.2 ∧ (SHA zz_.2) ∧ (∀ e : Nat, zz_.1 = .inr e → e = 0 ∨ e = 1 ∨ e = 2)) := by
  unfold fQ_simplify
  refine wp_bt (v_slotNumbered (σ := σ) (slot_0 := slot_0) hσ (by (try dsimp only) <;> first | assumption | omega | ((try simp (disch := omega) only [w32_of, w64_of, w8_of]) <;> first | assumption | omega | (split <;> omega) | (refine And.intro ?_ ?_ <;> split <;> omega)) | omega)) ?_ ?_
  · rintro x_3 σ_2 y3
    try dsimp only at y3 ⊢
    obtain ⟨g1, g2, hσ_2, flσ_2r⟩ := y3
    have flσ_2 := FC_of flσ_2r (by decide)
    have frσ_2 : FC [kP_stack, kP_stays] allS σ σ_2 := FC_le flσ_2 (by first | decide | (rcases hE with rfl | rfl | rfl <;> decide)) (by first | exact allS_1 (by first | assumption | decide) | exact allS_h | exact allS_0)
    have g4 := g1 _ rfl
    obtain ⟨g5, g6⟩ := g4
    try simp (disch := omega) only [w32_of, w64_of, w8_of] at g5
    try simp (disch := omega) only [w32_of, w64_of, w8_of] at g6
    refine wp_ck (by first | assumption | decide | omega) ?_
    refine wp_bt (v_slotNumbered (σ := σ_2) (slot_0 := to_0) hσ_2 (by (try dsimp only) <;> first | assumption | omega | ((try simp (disch := omega) only [w32_of, w64_of, w8_of]) <;> first | assumption | omega | (split <;> omega) | (refine And.intro ?_ ?_ <;> split <;> omega)) | omega)) ?_ ?_
    · rintro x_9 σ_8 y9
      try dsimp only at y9 ⊢
      obtain ⟨g7, g8, hσ_8, flσ_8r⟩ := y9
      have flσ_8 := FC_of flσ_8r (by decide)
      have frσ_8 : FC [kP_stack, kP_stays] allS σ σ_8 := FC_tr frσ_2 flσ_8 (by first | decide | (rcases hE with rfl | rfl | rfl <;> decide)) (by first | decide | (rcases hE with rfl | rfl | rfl <;> decide)) (by first | exact allS_1 (by first | assumption | decide) | exact allS_h | exact allS_0) (by first | exact allS_1 (by first | assumption | decide) | exact allS_h | exact allS_0)
      have g10 := g7 _ rfl
      obtain ⟨g11, g12⟩ := g10
      try simp (disch := omega) only [w32_of, w64_of, w8_of] at g11
      try simp (disch := omega) only [w32_of, w64_of, w8_of] at g12
      refine wp_ck (by first | assumption | decide | omega) ?_
      refine wp_bt (s_Q_mustBeThere (σ := σ_8) (shape_0 := x_3) hσ_8) ?_ ?_
      · rintro u13 σ_14 y15
        try dsimp only at y15 ⊢
        obtain ⟨g14, hσ_14, flσ_14r⟩ := y15
        have flσ_14 := FC_of flσ_14r (by decide)
        have frσ_14 : FC [kP_stack, kP_stays] allS σ σ_14 := FC_tr frσ_8 flσ_14 (by first | decide | (rcases hE with rfl | rfl | rfl <;> decide)) (by first | decide | (rcases hE with rfl | rfl | rfl <;> decide)) (by first | exact allS_1 (by first | assumption | decide) | exact allS_h | exact allS_0) (by first | exact allS_1 (by first | assumption | decide) | exact allS_h | exact allS_0)
        have s14 := SHA_f flσ_14 (SHA_f flσ_8 (SHA_f flσ_2 w0))
        have c17 := w32_rng distance_0
        refine wp_if (fun c16 => ?_) (fun c16 => ?_)
        · try simp (disch := omega) only [w32_of, w64_of, w8_of, decide_eq_true_eq, decide_eq_false_iff_not, Bool.not_eq_true] at c16
          exact wp_some ⟨hσ_14, frσ_14, (by (try dsimp only) <;> (first | exact SHA_w flσ_22 (by assumption) (SHA_s flσ_19 s14) (hb5 hth) | exact s14 | exact SHA_f flσ_14 (SHA_f flσ_8 (SHA_f flσ_2 w0)) | exact SHA_f flσ_8 (SHA_f flσ_2 w0) | exact SHA_f flσ_2 w0)), (by (try dsimp only) <;> (intro e9 q9; first | (injection q9; done) | (injection q9 with q8; omega)))⟩
        · try simp (disch := omega) only [w32_of, w64_of, w8_of, decide_eq_true_eq, decide_eq_false_iff_not, Bool.not_eq_true] at c16
          refine wp_bd (s_P_thin (σ := σ_14) (shape_0 := x_3) (into_0 := 162) (distance_0 := distance_0) hσ_14 (by first | assumption | decide | omega) (by decide) (by exact s14 x_3 (by assumption) (by assumption)) (by exact fun z => (by assumption : x_3 ≠ 162) z.symm)) ?_
          rintro ⟨x_20, σ_19⟩ - y18
          try dsimp only at y18 ⊢
          obtain ⟨hσ_19, flσ_19, hth⟩ := y18
          have frσ_19 : FC [kP_stack, kP_stays] allS σ σ_19 := FC_tr frσ_14 flσ_19 (by first | decide | (rcases hE with rfl | rfl | rfl <;> decide)) (by first | decide | (rcases hE with rfl | rfl | rfl <;> decide)) (by first | exact allS_1 (by first | assumption | decide) | exact allS_h | exact allS_0) (by first | exact allS_1 (by first | assumption | decide) | exact allS_h | exact allS_0)
          try simp (disch := omega) only [w32_of, w64_of, w8_of] at hth
          refine wp_bd (v_become (σ := σ_19) (this_0 := x_9) (other_0 := 162) hσ_19 (by first | assumption | decide | omega) (by decide)) ?_
          rintro σ_22 - ⟨hσ_22, flσ_22, hb1, hb2, hb3, hb4, hb5⟩
          have frσ_22 : FC [kP_stack, kP_stays] allS σ σ_22 := FC_tr frσ_19 flσ_22 (by first | decide | (rcases hE with rfl | rfl | rfl <;> decide)) (by first | decide | (rcases hE with rfl | rfl | rfl <;> decide)) (by first | exact allS_1 (by first | assumption | decide) | exact allS_h | exact allS_0) (by first | exact allS_1 (by first | assumption | decide) | exact allS_h | exact allS_0)
          try simp only [FC_plans (t := 162) frσ_19 (by decide) (NS_1 (by first | assumption | decide | omega) (by first | assumption | decide | omega))] at hb1
          try simp only [FC_plans (t := x_9) frσ_22 (by first | assumption | decide | omega) (NS_1 (by first | assumption | decide | omega) (by first | assumption | decide | omega))] at hb1
          have c19 := iiA_plans (s := x_9) hσ (by first | assumption | decide | omega) 0
          have c20 := iiA_plans (s := 162) hσ (by decide) 0
          try simp (disch := omega) only [w32_of, w64_of, w8_of] at hb1
          try simp only [FC_points (t := 162) frσ_19 (by decide) (NS_1 (by first | assumption | decide | omega) (by first | assumption | decide | omega))] at hb2
          try simp only [FC_points (t := x_9) frσ_22 (by first | assumption | decide | omega) (NS_1 (by first | assumption | decide | omega) (by first | assumption | decide | omega))] at hb2
          have c21 := iiA_points (s := x_9) hσ (by first | assumption | decide | omega) 0
          have c22 := iiA_points (s := 162) hσ (by decide) 0
          try simp (disch := omega) only [w32_of, w64_of, w8_of] at hb2
          try simp only [FC_plan (t := 162) frσ_19 (by decide) (NS_1 (by first | assumption | decide | omega) (by first | assumption | decide | omega))] at hb3
          try simp only [FC_plans (t := 162) frσ_19 (by decide) (NS_1 (by first | assumption | decide | omega) (by first | assumption | decide | omega))] at hb3
          try simp only [FC_plan (t := x_9) frσ_22 (by first | assumption | decide | omega) (NS_1 (by first | assumption | decide | omega) (by first | assumption | decide | omega))] at hb3
          try simp (disch := omega) only [w32_of, w64_of, w8_of] at hb3
          try simp only [FC_points (t := 162) frσ_19 (by decide) (NS_1 (by first | assumption | decide | omega) (by first | assumption | decide | omega))] at hb4
          try simp only [FC_x (t := 162) frσ_19 (by decide) (NS_1 (by first | assumption | decide | omega) (by first | assumption | decide | omega))] at hb4
          try simp only [FC_y (t := 162) frσ_19 (by decide) (NS_1 (by first | assumption | decide | omega) (by first | assumption | decide | omega))] at hb4
          try simp only [FC_x (t := x_9) frσ_22 (by first | assumption | decide | omega) (NS_1 (by first | assumption | decide | omega) (by first | assumption | decide | omega))] at hb4
          try simp only [FC_y (t := x_9) frσ_22 (by first | assumption | decide | omega) (NS_1 (by first | assumption | decide | omega) (by first | assumption | decide | omega))] at hb4
          try simp (disch := omega) only [w32_of, w64_of, w8_of] at hb4
          try simp (disch := omega) only [w32_of, w64_of, w8_of] at hb5
          exact wp_some ⟨hσ_22, frσ_22, (by (try dsimp only) <;> (first | exact SHA_w flσ_22 (by assumption) (SHA_s flσ_19 s14) (hb5 hth) | exact s14 | exact SHA_f flσ_14 (SHA_f flσ_8 (SHA_f flσ_2 w0)) | exact SHA_f flσ_8 (SHA_f flσ_2 w0) | exact SHA_f flσ_2 w0)), (by (try dsimp only) <;> (intro e9 q9; first | (injection q9; done) | (injection q9 with q8; omega)))⟩
      · rintro u23 σ_14 y25
        try dsimp only at y25 ⊢
        obtain ⟨g24, hσ_14, flσ_14r⟩ := y25
        have flσ_14 := FC_of flσ_14r (by decide)
        have frσ_14 : FC [kP_stack, kP_stays] allS σ σ_14 := FC_tr frσ_8 flσ_14 (by first | decide | (rcases hE with rfl | rfl | rfl <;> decide)) (by first | decide | (rcases hE with rfl | rfl | rfl <;> decide)) (by first | exact allS_1 (by first | assumption | decide) | exact allS_h | exact allS_0) (by first | exact allS_1 (by first | assumption | decide) | exact allS_h | exact allS_0)
        have g26 := g24 _ rfl
        obtain ⟨g27, g28⟩ := g26
        try simp (disch := omega) only [w32_of, w64_of, w8_of] at g27
        try simp (disch := omega) only [w32_of, w64_of, w8_of] at g28
        exact ⟨hσ_14, frσ_14, (by (try dsimp only) <;> (first | exact SHA_w flσ_22 (by assumption) (SHA_s flσ_19 s14) (hb5 hth) | exact s14 | exact SHA_f flσ_14 (SHA_f flσ_8 (SHA_f flσ_2 w0)) | exact SHA_f flσ_8 (SHA_f flσ_2 w0) | exact SHA_f flσ_2 w0)), (by (try dsimp only) <;> (intro e9 q9; first | (injection q9; done) | (injection q9 with q8; omega)))⟩
    · rintro u29 σ_8 y32
      try dsimp only at y32 ⊢
      obtain ⟨g30, g31, hσ_8, flσ_8r⟩ := y32
      have flσ_8 := FC_of flσ_8r (by decide)
      have frσ_8 : FC [kP_stack, kP_stays] allS σ σ_8 := FC_tr frσ_2 flσ_8 (by first | decide | (rcases hE with rfl | rfl | rfl <;> decide)) (by first | decide | (rcases hE with rfl | rfl | rfl <;> decide)) (by first | exact allS_1 (by first | assumption | decide) | exact allS_h | exact allS_0) (by first | exact allS_1 (by first | assumption | decide) | exact allS_h | exact allS_0)
      have g33 := g31 _ rfl
      obtain ⟨g34, g35⟩ := g33
      try simp (disch := omega) only [w32_of, w64_of, w8_of] at g34
      try simp (disch := omega) only [w32_of, w64_of, w8_of] at g35
      exact ⟨hσ_8, frσ_8, (by (try dsimp only) <;> (first | exact SHA_w flσ_22 (by assumption) (SHA_s flσ_19 s14) (hb5 hth) | exact s14 | exact SHA_f flσ_14 (SHA_f flσ_8 (SHA_f flσ_2 w0)) | exact SHA_f flσ_8 (SHA_f flσ_2 w0) | exact SHA_f flσ_2 w0)), (by (try dsimp only) <;> (intro e9 q9; first | (injection q9; done) | (injection q9 with q8; omega)))⟩
  · rintro u36 σ_2 y39
    try dsimp only at y39 ⊢
    obtain ⟨g37, g38, hσ_2, flσ_2r⟩ := y39
    have flσ_2 := FC_of flσ_2r (by decide)
    have frσ_2 : FC [kP_stack, kP_stays] allS σ σ_2 := FC_le flσ_2 (by first | decide | (rcases hE with rfl | rfl | rfl <;> decide)) (by first | exact allS_1 (by first | assumption | decide) | exact allS_h | exact allS_0)
    have g40 := g38 _ rfl
    obtain ⟨g41, g42⟩ := g40
    try simp (disch := omega) only [w32_of, w64_of, w8_of] at g41
    try simp (disch := omega) only [w32_of, w64_of, w8_of] at g42
    exact ⟨hσ_2, frσ_2, (by (try dsimp only) <;> (first | exact SHA_w flσ_22 (by assumption) (SHA_s flσ_19 s14) (hb5 hth) | exact s14 | exact SHA_f flσ_14 (SHA_f flσ_8 (SHA_f flσ_2 w0)) | exact SHA_f flσ_8 (SHA_f flσ_2 w0) | exact SHA_f flσ_2 w0)), (by (try dsimp only) <;> (intro e9 q9; first | (injection q9; done) | (injection q9 with q8; omega)))⟩
theorem s_Q_area {σ : SG} {slot_0 : Int} (hσ : II σ) (qslot_0 : (-2147483648) ≤ slot_0 ∧ slot_0 ≤ 2147483647) (w0 : SHA σ) : wp_ (fQ_area σ slot_0) (fun zz_ => II zz_.2 ∧ FC [] [] σ zz_.2 ∧ (∀ e : Nat, zz_.1 = .inr e → e = 0 ∨ e = 1)) := by
  unfold fQ_area
  refine wp_bt (v_slotNumbered (σ := σ) (slot_0 := slot_0) hσ (by (try dsimp only) <;> first | assumption | omega | ((try simp (disch := omega) only [w32_of, w64_of, w8_of]) <;> first | assumption | omega | (split <;> omega) | (refine And.intro ?_ ?_ <;> split <;> omega)) | omega)) ?_ ?_
  · rintro x_3 σ_2 y3
    try dsimp only at y3 ⊢
    obtain ⟨g1, g2, hσ_2, flσ_2r⟩ := y3
    have flσ_2 := FC_of flσ_2r (by decide)
    have frσ_2 : FC [] [] σ σ_2 := FC_le flσ_2 (by first | decide | (rcases hE with rfl | rfl | rfl <;> decide)) (by simp)
    have g4 := g1 _ rfl
    obtain ⟨g5, g6⟩ := g4
    try simp (disch := omega) only [w32_of, w64_of, w8_of] at g5
    try simp (disch := omega) only [w32_of, w64_of, w8_of] at g6
    refine wp_ck (by first | assumption | decide | omega) ?_
    refine wp_bt (s_Q_mustBeThere (σ := σ_2) (shape_0 := x_3) hσ_2) ?_ ?_
    · rintro u7 σ_8 y9
      try dsimp only at y9 ⊢
      obtain ⟨g8, hσ_8, flσ_8r⟩ := y9
      have flσ_8 := FC_of flσ_8r (by decide)
      have frσ_8 : FC [] [] σ σ_8 := FC_tr frσ_2 flσ_8 (by first | decide | (rcases hE with rfl | rfl | rfl <;> decide)) (by first | decide | (rcases hE with rfl | rfl | rfl <;> decide)) (by simp) (by simp)
      have s8 := w0 x_3 (by assumption) (by assumption)
      have hpl := iiA_plans (s := x_3) hσ (by assumption) 0
      have hpt := iiA_points (s := x_3) hσ (by assumption) 0
      refine wp_bd (P := fun rr_ => (True)) ?_ ?_
      · refine wp_whl (fun ss_ => (FLa σ x_3 ss_.2.2 ss_.2.1)) (fun ss_ => (2048 - ss_.2.2).toNat) (by (try dsimp only) <;> (first | exact FLa_0 s8 | (rw [hbh, hfe]; exact hn))) ?_
        rintro ⟨total_12, from_13, at_14⟩ y10
        try dsimp only at y10 ⊢
        have gw := y10
        have hle := FLa_le gw
        have c12 := w32_rng (at_14 + 1)
        have c13 := iiA_plans (s := x_3) hσ_8 (by first | assumption | decide | omega) 0
        have c14 := congrFun (FC_plans (t := x_3) flσ_8 (by first | assumption | decide | omega) (NS_0 _)) 0
        have c15 := iiA_plans (s := x_3) hσ_2 (by first | assumption | decide | omega) 0
        have c16 := congrFun (FC_plans (t := x_3) flσ_2 (by first | assumption | decide | omega) (NS_0 _)) 0
        have c17 := iiA_plans (s := x_3) hσ (by first | assumption | decide | omega) 0
        have c18 := w32_rng (σ_8 (kA_plans x_3) 0)
        refine wp_if (fun c11 => ?_) (fun c11 => ?_)
        · try simp (disch := omega) only [w32_of, w64_of, w8_of, decide_eq_true_eq, decide_eq_false_iff_not, Bool.not_eq_true] at c11
          obtain ⟨he, hn, h2, h3, h4, h5, h6⟩ := FLa_hd hσ (by assumption) gw (by omega)
          obtain ⟨ho, -, -, -⟩ := id he
          have hRe := rS_end ho
          refine wp_bd (P := fun rr_ => (rr_.2.1 = from_13 + eP (σ (kA_plan x_3)) at_14)) ?_ ?_
          · refine wp_whl (fun ss_ => (0 ≤ ss_.2.2 ∧ ss_.2.2 ≤ rN (σ (kA_plan x_3)) at_14) ∧ (ss_.2.1 = from_13 + rS (σ (kA_plan x_3)) at_14 ss_.2.2)) (fun ss_ => (rN (σ (kA_plan x_3)) at_14 - ss_.2.2).toNat) ⟨(by (try dsimp only) <;> first | assumption | omega | ((try simp (disch := omega) only [w32_of, w64_of, w8_of]) <;> first | assumption | omega | (split <;> omega) | (refine And.intro ?_ ?_ <;> split <;> omega)) | omega), (by (try dsimp only) <;> (first | (rw [rS_0]; omega) | omega))⟩ ?_
            rintro ⟨total_23, from_24, row_25⟩ y20
            try dsimp only at y20 ⊢
            obtain ⟨g19, hfr⟩ := y20
            refine wp_bd (s_A_rows (σ := σ_8) (this_0 := x_3) (at_0 := at_14) hσ_8 (by first | assumption | decide | omega) (ENa_f flσ_8 (by first | assumption | decide | omega) (NS_0 _) (ENa_f flσ_2 (by first | assumption | decide | omega) (NS_0 _) he))) ?_
            rintro x_34 - ⟨hrw, hrx⟩
            try simp only [FC_plan (t := x_3) frσ_8 (by first | assumption | decide | omega) (NS_0 _)] at hrw
            try simp (disch := omega) only [w32_of, w64_of, w8_of] at hrw
            try simp (disch := omega) only [w32_of, w64_of, w8_of] at hrx
            have c22 := w32_rng row_25
            have c23 := w32_rng x_34
            refine wp_if (fun c21 => ?_) (fun c21 => ?_)
            · try simp (disch := omega) only [w32_of, w64_of, w8_of, decide_eq_true_eq, decide_eq_false_iff_not, Bool.not_eq_true] at c21
              have hg := rS_go ho (show 0 ≤ row_25 by omega) (by omega)
              refine wp_bd (s_A_rowLength (σ := σ_8) (this_0 := x_3) (at_0 := at_14) (row_0 := row_25) hσ_8 (by first | assumption | decide | omega) (ENa_f flσ_8 (by first | assumption | decide | omega) (NS_0 _) (ENa_f flσ_2 (by first | assumption | decide | omega) (NS_0 _) he)) (by (try simp only [FC_plan (t := x_3) frσ_8 (by first | assumption | decide | omega) (NS_0 _)]) <;> ((try dsimp only) <;> first | assumption | omega | ((try simp (disch := omega) only [w32_of, w64_of, w8_of]) <;> first | assumption | omega | (split <;> omega) | (refine And.intro ?_ ?_ <;> split <;> omega)) | omega))) ?_
              rintro x_37 - ⟨hrl, hrm⟩
              try simp only [FC_plan (t := x_3) frσ_8 (by first | assumption | decide | omega) (NS_0 _)] at hrl
              try simp (disch := omega) only [w32_of, w64_of, w8_of] at hrl
              try simp (disch := omega) only [w32_of, w64_of, w8_of] at hrm
              refine wp_bd (P := fun rr_ => (True)) ?_ ?_
              · have c24 := w32_rng at_14
                refine wp_rdI (by (try dsimp only) <;> first | assumption | omega | ((try simp (disch := omega) only [w32_of, w64_of, w8_of]) <;> first | assumption | omega | (split <;> omega) | (refine And.intro ?_ ?_ <;> split <;> omega)) | omega) (by (try dsimp only) <;> first | assumption | omega | ((try simp (disch := omega) only [w32_of, w64_of, w8_of]) <;> first | assumption | omega | (split <;> omega) | (refine And.intro ?_ ?_ <;> split <;> omega)) | omega) (fun x_42 e_x_42 => ?_)
                rw [FC_plan (t := x_3) frσ_8 (by first | assumption | decide | omega) (NS_0 _)] at e_x_42
                try simp (disch := omega) only [w32_of, w64_of, w8_of] at e_x_42
                have c25 := congrFun (FC_plan (t := x_3) flσ_8 (by first | assumption | decide | omega) (NS_0 _)) at_14
                have c26 := congrFun (FC_plan (t := x_3) flσ_2 (by first | assumption | decide | omega) (NS_0 _)) at_14
                have c28 := w32_rng x_42
                refine wp_if (fun c27 => ?_) (fun c27 => ?_)
                · try simp (disch := omega) only [w32_of, w64_of, w8_of, decide_eq_true_eq, decide_eq_false_iff_not, Bool.not_eq_true] at c27
                  refine wp_bd (s_A_twiceAround (σ := σ_8) (this_0 := x_3) (from_0 := from_24) (length_0 := x_37) hσ_8 (by first | assumption | decide | omega) (by (try dsimp only) <;> first | assumption | omega | ((try simp (disch := omega) only [w32_of, w64_of, w8_of]) <;> first | assumption | omega | (split <;> omega) | (refine And.intro ?_ ?_ <;> split <;> omega)) | omega) (by (try dsimp only) <;> first | assumption | omega | ((try simp (disch := omega) only [w32_of, w64_of, w8_of]) <;> first | assumption | omega | (split <;> omega) | (refine And.intro ?_ ?_ <;> split <;> omega)) | omega)) ?_
                  rintro x_46 - -
                  have c30 := q_abl_bd x_46
                  try simp (disch := omega) only [w32_of, w64_of, w8_of] at c30
                  refine wp_lt (fun x_48 e_x_48 => ?_)
                  try simp (disch := omega) only [w32_of, w64_of, w8_of] at e_x_48
                  exact wp_some (by (try dsimp only) <;> first | assumption | omega | ((try simp (disch := omega) only [w32_of, w64_of, w8_of]) <;> first | assumption | omega | (split <;> omega) | (refine And.intro ?_ ?_ <;> split <;> omega)) | omega)
                · try simp (disch := omega) only [w32_of, w64_of, w8_of, decide_eq_true_eq, decide_eq_false_iff_not, Bool.not_eq_true] at c27
                  exact wp_some (by (try dsimp only) <;> first | assumption | omega | ((try simp (disch := omega) only [w32_of, w64_of, w8_of]) <;> first | assumption | omega | (split <;> omega) | (refine And.intro ?_ ?_ <;> split <;> omega)) | omega)
              rintro total_52 _ g31
              exact wp_some (x_inl ⟨⟨(by (try dsimp only) <;> first | assumption | omega | ((try simp (disch := omega) only [w32_of, w64_of, w8_of]) <;> first | assumption | omega | (split <;> omega) | (refine And.intro ?_ ?_ <;> split <;> omega)) | omega), (by (try dsimp only) <;> (first | (rw [rS_0]; omega) | omega))⟩, (by (try dsimp only) <;> first | assumption | omega | ((try simp (disch := omega) only [w32_of, w64_of, w8_of]) <;> first | assumption | omega | (split <;> omega) | (refine And.intro ?_ ?_ <;> split <;> omega)) | omega)⟩)
            · try simp (disch := omega) only [w32_of, w64_of, w8_of, decide_eq_true_eq, decide_eq_false_iff_not, Bool.not_eq_true] at c21
              have hz : row_25 = rN (σ (kA_plan x_3)) at_14 := by omega
              rw [hz, hRe.1] at hfr
              exact wp_some (x_inr (by (try dsimp only) <;> (omega)))
          rintro ⟨total_56, from_57, row_58⟩ _ y32
          try dsimp only at y32 ⊢
          have hfe := y32
          refine wp_bd (s_A_behind (σ := σ_8) (this_0 := x_3) (at_0 := at_14) hσ_8 (by first | assumption | decide | omega) (ENa_f flσ_8 (by first | assumption | decide | omega) (NS_0 _) (ENa_f flσ_2 (by first | assumption | decide | omega) (NS_0 _) he))) ?_
          rintro x_60 - hbh
          try simp only [FC_plan (t := x_3) frσ_8 (by first | assumption | decide | omega) (NS_0 _)] at hbh
          try simp (disch := omega) only [w32_of, w64_of, w8_of] at hbh
          exact wp_some (x_inl ⟨(by (try dsimp only) <;> (first | exact FLa_0 s8 | (rw [hbh, hfe]; exact hn))), (by (try dsimp only) <;> first | assumption | omega | ((try simp (disch := omega) only [w32_of, w64_of, w8_of]) <;> first | assumption | omega | (split <;> omega) | (refine And.intro ?_ ?_ <;> split <;> omega)) | omega)⟩)
        · try simp (disch := omega) only [w32_of, w64_of, w8_of, decide_eq_true_eq, decide_eq_false_iff_not, Bool.not_eq_true] at c11
          exact wp_some (x_inr (by (try dsimp only) <;> first | assumption | omega | ((try simp (disch := omega) only [w32_of, w64_of, w8_of]) <;> first | assumption | omega | (split <;> omega) | (refine And.intro ?_ ?_ <;> split <;> omega)) | omega))
      rintro ⟨total_64, from_65, at_66⟩ _ y34
      try dsimp only at y34 ⊢
      have g33 := y34
      exact wp_some ⟨hσ_8, frσ_8, (by (try dsimp only) <;> (intro e9 q9; first | (injection q9; done) | (injection q9 with q8; omega)))⟩
    · rintro u35 σ_8 y37
      try dsimp only at y37 ⊢
      obtain ⟨g36, hσ_8, flσ_8r⟩ := y37
      have flσ_8 := FC_of flσ_8r (by decide)
      have frσ_8 : FC [] [] σ σ_8 := FC_tr frσ_2 flσ_8 (by first | decide | (rcases hE with rfl | rfl | rfl <;> decide)) (by first | decide | (rcases hE with rfl | rfl | rfl <;> decide)) (by simp) (by simp)
      have g38 := g36 _ rfl
      obtain ⟨g39, g40⟩ := g38
      try simp (disch := omega) only [w32_of, w64_of, w8_of] at g39
      try simp (disch := omega) only [w32_of, w64_of, w8_of] at g40
      exact ⟨hσ_8, frσ_8, (by (try dsimp only) <;> (intro e9 q9; first | (injection q9; done) | (injection q9 with q8; omega)))⟩
  · rintro u41 σ_2 y44
    try dsimp only at y44 ⊢
    obtain ⟨g42, g43, hσ_2, flσ_2r⟩ := y44
    have flσ_2 := FC_of flσ_2r (by decide)
    have frσ_2 : FC [] [] σ σ_2 := FC_le flσ_2 (by first | decide | (rcases hE with rfl | rfl | rfl <;> decide)) (by simp)
    have g45 := g43 _ rfl
    obtain ⟨g46, g47⟩ := g45
    try simp (disch := omega) only [w32_of, w64_of, w8_of] at g46
    try simp (disch := omega) only [w32_of, w64_of, w8_of] at g47
    exact ⟨hσ_2, frσ_2, (by (try dsimp only) <;> (intro e9 q9; first | (injection q9; done) | (injection q9 with q8; omega)))⟩
theorem s_Q_bounds {σ : SG} {slot_0 : Int} {what_0 : Int} (hσ : II σ) (qslot_0 : (-2147483648) ≤ slot_0 ∧ slot_0 ≤ 2147483647) (qwhat_0 : (-2147483648) ≤ what_0 ∧ what_0 ≤ 2147483647) : wp_ (fQ_bounds σ slot_0 what_0) (fun zz_ => II zz_.2 ∧ FC [kQ_box] [] σ zz_.2 ∧ (∀ e : Nat, zz_.1 = .inr e → e = 0 ∨ e = 1 ∨ e = 2)) := by
  unfold fQ_bounds
  refine wp_bt (v_slotNumbered (σ := σ) (slot_0 := slot_0) hσ (by (try dsimp only) <;> first | assumption | omega | ((try simp (disch := omega) only [w32_of, w64_of, w8_of]) <;> first | assumption | omega | (split <;> omega) | (refine And.intro ?_ ?_ <;> split <;> omega)) | omega)) ?_ ?_
  · rintro x_3 σ_2 y3
    try dsimp only at y3 ⊢
    obtain ⟨g1, g2, hσ_2, flσ_2r⟩ := y3
    have flσ_2 := FC_of flσ_2r (by decide)
    have frσ_2 : FC [kQ_box] [] σ σ_2 := FC_le flσ_2 (by first | decide | (rcases hE with rfl | rfl | rfl <;> decide)) (by simp)
    have g4 := g1 _ rfl
    obtain ⟨g5, g6⟩ := g4
    try simp (disch := omega) only [w32_of, w64_of, w8_of] at g5
    try simp (disch := omega) only [w32_of, w64_of, w8_of] at g6
    refine wp_ck (by first | assumption | decide | omega) ?_
    refine wp_bt (s_Q_mustBeThere (σ := σ_2) (shape_0 := x_3) hσ_2) ?_ ?_
    · rintro u7 σ_8 y9
      try dsimp only at y9 ⊢
      obtain ⟨g8, hσ_8, flσ_8r⟩ := y9
      have flσ_8 := FC_of flσ_8r (by decide)
      have frσ_8 : FC [kQ_box] [] σ σ_8 := FC_tr frσ_2 flσ_8 (by first | decide | (rcases hE with rfl | rfl | rfl <;> decide)) (by first | decide | (rcases hE with rfl | rfl | rfl <;> decide)) (by simp) (by simp)
      have c11 := w32_rng what_0
      refine wp_if (fun c10 => ?_) (fun c10 => ?_)
      · try simp (disch := omega) only [w32_of, w64_of, w8_of, decide_eq_true_eq, decide_eq_false_iff_not, Bool.not_eq_true] at c10
        exact wp_some ⟨hσ_8, frσ_8, (by (try dsimp only) <;> (intro e9 q9; first | (injection q9; done) | (injection q9 with q8; omega)))⟩
      · try simp (disch := omega) only [w32_of, w64_of, w8_of, decide_eq_true_eq, decide_eq_false_iff_not, Bool.not_eq_true] at c10
        refine wp_if (fun c12 => ?_) (fun c12 => ?_)
        · try simp (disch := omega) only [w32_of, w64_of, w8_of, decide_eq_true_eq, decide_eq_false_iff_not, Bool.not_eq_true] at c12
          exact wp_some ⟨hσ_8, frσ_8, (by (try dsimp only) <;> (intro e9 q9; first | (injection q9; done) | (injection q9 with q8; omega)))⟩
        · try simp (disch := omega) only [w32_of, w64_of, w8_of, decide_eq_true_eq, decide_eq_false_iff_not, Bool.not_eq_true] at c12
          refine wp_bd (s_A_putBox (σ := σ_8) (this_0 := x_3) hσ_8 (by first | assumption | decide | omega)) ?_
          rintro ⟨x_26, σ_25⟩ - y13
          try dsimp only at y13 ⊢
          obtain ⟨hσ_25, flσ_25⟩ := y13
          have frσ_25 : FC [kQ_box] [] σ σ_25 := FC_tr frσ_8 flσ_25 (by first | decide | (rcases hE with rfl | rfl | rfl <;> decide)) (by first | decide | (rcases hE with rfl | rfl | rfl <;> decide)) (by simp) (by simp)
          refine wp_if (fun c14 => ?_) (fun c14 => ?_)
          · try simp (disch := omega) only [w32_of, w64_of, w8_of, decide_eq_true_eq, decide_eq_false_iff_not, Bool.not_eq_true] at c14
            refine wp_rdI (by (try dsimp only) <;> first | assumption | omega | ((try simp (disch := omega) only [w32_of, w64_of, w8_of]) <;> first | assumption | omega | (split <;> omega) | (refine And.intro ?_ ?_ <;> split <;> omega)) | omega) (by (try dsimp only) <;> first | assumption | omega | ((try simp (disch := omega) only [w32_of, w64_of, w8_of]) <;> first | assumption | omega | (split <;> omega) | (refine And.intro ?_ ?_ <;> split <;> omega)) | omega) (fun x_28 e_x_28 => ?_)
            have b_x_28 : (-1000000000) ≤ x_28 ∧ x_28 ≤ 1000000000 := by rw [e_x_28]; exact ii_kQ_box hσ_25 _
            try simp (disch := omega) only [w32_of, w64_of, w8_of] at e_x_28
            have c15 := ii_kQ_box hσ_25 what_0
            exact wp_some ⟨hσ_25, frσ_25, (by (try dsimp only) <;> (intro e9 q9; first | (injection q9; done) | (injection q9 with q8; omega)))⟩
          · try simp (disch := omega) only [w32_of, w64_of, w8_of, decide_eq_true_eq, decide_eq_false_iff_not, Bool.not_eq_true] at c14
            exact wp_some ⟨hσ_25, frσ_25, (by (try dsimp only) <;> (intro e9 q9; first | (injection q9; done) | (injection q9 with q8; omega)))⟩
    · rintro u16 σ_8 y18
      try dsimp only at y18 ⊢
      obtain ⟨g17, hσ_8, flσ_8r⟩ := y18
      have flσ_8 := FC_of flσ_8r (by decide)
      have frσ_8 : FC [kQ_box] [] σ σ_8 := FC_tr frσ_2 flσ_8 (by first | decide | (rcases hE with rfl | rfl | rfl <;> decide)) (by first | decide | (rcases hE with rfl | rfl | rfl <;> decide)) (by simp) (by simp)
      have g19 := g17 _ rfl
      obtain ⟨g20, g21⟩ := g19
      try simp (disch := omega) only [w32_of, w64_of, w8_of] at g20
      try simp (disch := omega) only [w32_of, w64_of, w8_of] at g21
      exact ⟨hσ_8, frσ_8, (by (try dsimp only) <;> (intro e9 q9; first | (injection q9; done) | (injection q9 with q8; omega)))⟩
  · rintro u22 σ_2 y25
    try dsimp only at y25 ⊢
    obtain ⟨g23, g24, hσ_2, flσ_2r⟩ := y25
    have flσ_2 := FC_of flσ_2r (by decide)
    have frσ_2 : FC [kQ_box] [] σ σ_2 := FC_le flσ_2 (by first | decide | (rcases hE with rfl | rfl | rfl <;> decide)) (by simp)
    have g26 := g24 _ rfl
    obtain ⟨g27, g28⟩ := g26
    try simp (disch := omega) only [w32_of, w64_of, w8_of] at g27
    try simp (disch := omega) only [w32_of, w64_of, w8_of] at g28
    exact ⟨hσ_2, frσ_2, (by (try dsimp only) <;> (intro e9 q9; first | (injection q9; done) | (injection q9 with q8; omega)))⟩
theorem s_Q_boxLies {σ : SG} {what_0 : Int} {lowX_0 : Int} {lowY_0 : Int} {highX_0 : Int} {highY_0 : Int} (hσ : II σ) (qwhat_0 : 0 ≤ what_0 ∧ what_0 ≤ 2) (qlowX_0 : (-1000000000) ≤ lowX_0 ∧ lowX_0 ≤ 1000000000) (qlowY_0 : (-1000000000) ≤ lowY_0 ∧ lowY_0 ≤ 1000000000) (qhighX_0 : (-1000000000) ≤ highX_0 ∧ highX_0 ≤ 1000000000) (qhighY_0 : (-1000000000) ≤ highY_0 ∧ highY_0 ≤ 1000000000) : wp_ (fQ_boxLies σ what_0 lowX_0 lowY_0 highX_0 highY_0) (fun zz_ => True) := by
  unfold fQ_boxLies
  have c2 := w32_rng what_0
  refine wp_if (fun c1 => ?_) (fun c1 => ?_)
  · try simp (disch := omega) only [w32_of, w64_of, w8_of, decide_eq_true_eq, decide_eq_false_iff_not, Bool.not_eq_true] at c1
    refine wp_bd (P := fun rr_ => True) ?_ ?_
    · refine wp_rdI (by (try dsimp only) <;> first | assumption | omega | ((try simp (disch := omega) only [w32_of, w64_of, w8_of]) <;> first | assumption | omega | (split <;> omega) | (refine And.intro ?_ ?_ <;> split <;> omega)) | omega) (by (try dsimp only) <;> first | assumption | omega | ((try simp (disch := omega) only [w32_of, w64_of, w8_of]) <;> first | assumption | omega | (split <;> omega) | (refine And.intro ?_ ?_ <;> split <;> omega)) | omega) (fun x_2 e_x_2 => ?_)
      have b_x_2 : (-1000000000) ≤ x_2 ∧ x_2 ≤ 1000000000 := by rw [e_x_2]; exact ii_kQ_box hσ _
      try simp (disch := omega) only [w32_of, w64_of, w8_of] at e_x_2
      have c3 := ii_kQ_box hσ 0
      have c5 := w32_rng x_2
      have c6 := w32_rng highX_0
      refine wp_if (fun c4 => ?_) (fun c4 => ?_)
      · try simp (disch := omega) only [w32_of, w64_of, w8_of, decide_eq_true_eq, decide_eq_false_iff_not, Bool.not_eq_true] at c4
        refine wp_rdI (by (try dsimp only) <;> first | assumption | omega | ((try simp (disch := omega) only [w32_of, w64_of, w8_of]) <;> first | assumption | omega | (split <;> omega) | (refine And.intro ?_ ?_ <;> split <;> omega)) | omega) (by (try dsimp only) <;> first | assumption | omega | ((try simp (disch := omega) only [w32_of, w64_of, w8_of]) <;> first | assumption | omega | (split <;> omega) | (refine And.intro ?_ ?_ <;> split <;> omega)) | omega) (fun x_5 e_x_5 => ?_)
        have b_x_5 : (-1000000000) ≤ x_5 ∧ x_5 ≤ 1000000000 := by rw [e_x_5]; exact ii_kQ_box hσ _
        try simp (disch := omega) only [w32_of, w64_of, w8_of] at e_x_5
        have c7 := ii_kQ_box hσ 2
        have c9 := w32_rng lowX_0
        have c10 := w32_rng x_5
        refine wp_if (fun c8 => ?_) (fun c8 => ?_)
        · try simp (disch := omega) only [w32_of, w64_of, w8_of, decide_eq_true_eq, decide_eq_false_iff_not, Bool.not_eq_true] at c8
          refine wp_rdI (by (try dsimp only) <;> first | assumption | omega | ((try simp (disch := omega) only [w32_of, w64_of, w8_of]) <;> first | assumption | omega | (split <;> omega) | (refine And.intro ?_ ?_ <;> split <;> omega)) | omega) (by (try dsimp only) <;> first | assumption | omega | ((try simp (disch := omega) only [w32_of, w64_of, w8_of]) <;> first | assumption | omega | (split <;> omega) | (refine And.intro ?_ ?_ <;> split <;> omega)) | omega) (fun x_8 e_x_8 => ?_)
          have b_x_8 : (-1000000000) ≤ x_8 ∧ x_8 ≤ 1000000000 := by rw [e_x_8]; exact ii_kQ_box hσ _
          try simp (disch := omega) only [w32_of, w64_of, w8_of] at e_x_8
          have c11 := ii_kQ_box hσ 1
          have c13 := w32_rng x_8
          have c14 := w32_rng highY_0
          refine wp_if (fun c12 => ?_) (fun c12 => ?_)
          · try simp (disch := omega) only [w32_of, w64_of, w8_of, decide_eq_true_eq, decide_eq_false_iff_not, Bool.not_eq_true] at c12
            refine wp_rdI (by (try dsimp only) <;> first | assumption | omega | ((try simp (disch := omega) only [w32_of, w64_of, w8_of]) <;> first | assumption | omega | (split <;> omega) | (refine And.intro ?_ ?_ <;> split <;> omega)) | omega) (by (try dsimp only) <;> first | assumption | omega | ((try simp (disch := omega) only [w32_of, w64_of, w8_of]) <;> first | assumption | omega | (split <;> omega) | (refine And.intro ?_ ?_ <;> split <;> omega)) | omega) (fun x_11 e_x_11 => ?_)
            have b_x_11 : (-1000000000) ≤ x_11 ∧ x_11 ≤ 1000000000 := by rw [e_x_11]; exact ii_kQ_box hσ _
            try simp (disch := omega) only [w32_of, w64_of, w8_of] at e_x_11
            have c15 := ii_kQ_box hσ 3
            have c17 := w32_rng lowY_0
            have c18 := w32_rng x_11
            refine wp_if (fun c16 => ?_) (fun c16 => ?_)
            · try simp (disch := omega) only [w32_of, w64_of, w8_of, decide_eq_true_eq, decide_eq_false_iff_not, Bool.not_eq_true] at c16
              exact wp_some trivial
            · try simp (disch := omega) only [w32_of, w64_of, w8_of, decide_eq_true_eq, decide_eq_false_iff_not, Bool.not_eq_true] at c16
              exact wp_some trivial
          · try simp (disch := omega) only [w32_of, w64_of, w8_of, decide_eq_true_eq, decide_eq_false_iff_not, Bool.not_eq_true] at c12
            exact wp_some trivial
        · try simp (disch := omega) only [w32_of, w64_of, w8_of, decide_eq_true_eq, decide_eq_false_iff_not, Bool.not_eq_true] at c8
          exact wp_some trivial
      · try simp (disch := omega) only [w32_of, w64_of, w8_of, decide_eq_true_eq, decide_eq_false_iff_not, Bool.not_eq_true] at c4
        exact wp_some trivial
    rintro x_19 _ -
    exact wp_some trivial
  · try simp (disch := omega) only [w32_of, w64_of, w8_of, decide_eq_true_eq, decide_eq_false_iff_not, Bool.not_eq_true] at c1
    refine wp_if (fun c19 => ?_) (fun c19 => ?_)
    · try simp (disch := omega) only [w32_of, w64_of, w8_of, decide_eq_true_eq, decide_eq_false_iff_not, Bool.not_eq_true] at c19
      refine wp_bd (P := fun rr_ => True) ?_ ?_
      · refine wp_rdI (by (try dsimp only) <;> first | assumption | omega | ((try simp (disch := omega) only [w32_of, w64_of, w8_of]) <;> first | assumption | omega | (split <;> omega) | (refine And.intro ?_ ?_ <;> split <;> omega)) | omega) (by (try dsimp only) <;> first | assumption | omega | ((try simp (disch := omega) only [w32_of, w64_of, w8_of]) <;> first | assumption | omega | (split <;> omega) | (refine And.intro ?_ ?_ <;> split <;> omega)) | omega) (fun x_25 e_x_25 => ?_)
        have b_x_25 : (-1000000000) ≤ x_25 ∧ x_25 ≤ 1000000000 := by rw [e_x_25]; exact ii_kQ_box hσ _
        try simp (disch := omega) only [w32_of, w64_of, w8_of] at e_x_25
        have c20 := ii_kQ_box hσ 0
        have c22 := w32_rng lowX_0
        have c23 := w32_rng x_25
        refine wp_if (fun c21 => ?_) (fun c21 => ?_)
        · try simp (disch := omega) only [w32_of, w64_of, w8_of, decide_eq_true_eq, decide_eq_false_iff_not, Bool.not_eq_true] at c21
          refine wp_rdI (by (try dsimp only) <;> first | assumption | omega | ((try simp (disch := omega) only [w32_of, w64_of, w8_of]) <;> first | assumption | omega | (split <;> omega) | (refine And.intro ?_ ?_ <;> split <;> omega)) | omega) (by (try dsimp only) <;> first | assumption | omega | ((try simp (disch := omega) only [w32_of, w64_of, w8_of]) <;> first | assumption | omega | (split <;> omega) | (refine And.intro ?_ ?_ <;> split <;> omega)) | omega) (fun x_28 e_x_28 => ?_)
          have b_x_28 : (-1000000000) ≤ x_28 ∧ x_28 ≤ 1000000000 := by rw [e_x_28]; exact ii_kQ_box hσ _
          try simp (disch := omega) only [w32_of, w64_of, w8_of] at e_x_28
          have c24 := ii_kQ_box hσ 2
          have c26 := w32_rng x_28
          have c27 := w32_rng highX_0
          refine wp_if (fun c25 => ?_) (fun c25 => ?_)
          · try simp (disch := omega) only [w32_of, w64_of, w8_of, decide_eq_true_eq, decide_eq_false_iff_not, Bool.not_eq_true] at c25
            refine wp_rdI (by (try dsimp only) <;> first | assumption | omega | ((try simp (disch := omega) only [w32_of, w64_of, w8_of]) <;> first | assumption | omega | (split <;> omega) | (refine And.intro ?_ ?_ <;> split <;> omega)) | omega) (by (try dsimp only) <;> first | assumption | omega | ((try simp (disch := omega) only [w32_of, w64_of, w8_of]) <;> first | assumption | omega | (split <;> omega) | (refine And.intro ?_ ?_ <;> split <;> omega)) | omega) (fun x_31 e_x_31 => ?_)
            have b_x_31 : (-1000000000) ≤ x_31 ∧ x_31 ≤ 1000000000 := by rw [e_x_31]; exact ii_kQ_box hσ _
            try simp (disch := omega) only [w32_of, w64_of, w8_of] at e_x_31
            have c28 := ii_kQ_box hσ 1
            have c30 := w32_rng lowY_0
            have c31 := w32_rng x_31
            refine wp_if (fun c29 => ?_) (fun c29 => ?_)
            · try simp (disch := omega) only [w32_of, w64_of, w8_of, decide_eq_true_eq, decide_eq_false_iff_not, Bool.not_eq_true] at c29
              refine wp_rdI (by (try dsimp only) <;> first | assumption | omega | ((try simp (disch := omega) only [w32_of, w64_of, w8_of]) <;> first | assumption | omega | (split <;> omega) | (refine And.intro ?_ ?_ <;> split <;> omega)) | omega) (by (try dsimp only) <;> first | assumption | omega | ((try simp (disch := omega) only [w32_of, w64_of, w8_of]) <;> first | assumption | omega | (split <;> omega) | (refine And.intro ?_ ?_ <;> split <;> omega)) | omega) (fun x_34 e_x_34 => ?_)
              have b_x_34 : (-1000000000) ≤ x_34 ∧ x_34 ≤ 1000000000 := by rw [e_x_34]; exact ii_kQ_box hσ _
              try simp (disch := omega) only [w32_of, w64_of, w8_of] at e_x_34
              have c32 := ii_kQ_box hσ 3
              have c34 := w32_rng x_34
              have c35 := w32_rng highY_0
              refine wp_if (fun c33 => ?_) (fun c33 => ?_)
              · try simp (disch := omega) only [w32_of, w64_of, w8_of, decide_eq_true_eq, decide_eq_false_iff_not, Bool.not_eq_true] at c33
                exact wp_some trivial
              · try simp (disch := omega) only [w32_of, w64_of, w8_of, decide_eq_true_eq, decide_eq_false_iff_not, Bool.not_eq_true] at c33
                exact wp_some trivial
            · try simp (disch := omega) only [w32_of, w64_of, w8_of, decide_eq_true_eq, decide_eq_false_iff_not, Bool.not_eq_true] at c29
              exact wp_some trivial
          · try simp (disch := omega) only [w32_of, w64_of, w8_of, decide_eq_true_eq, decide_eq_false_iff_not, Bool.not_eq_true] at c25
            exact wp_some trivial
        · try simp (disch := omega) only [w32_of, w64_of, w8_of, decide_eq_true_eq, decide_eq_false_iff_not, Bool.not_eq_true] at c21
          exact wp_some trivial
      rintro x_42 _ -
      exact wp_some trivial
    · try simp (disch := omega) only [w32_of, w64_of, w8_of, decide_eq_true_eq, decide_eq_false_iff_not, Bool.not_eq_true] at c19
      refine wp_bd (P := fun rr_ => True) ?_ ?_
      · refine wp_rdI (by (try dsimp only) <;> first | assumption | omega | ((try simp (disch := omega) only [w32_of, w64_of, w8_of]) <;> first | assumption | omega | (split <;> omega) | (refine And.intro ?_ ?_ <;> split <;> omega)) | omega) (by (try dsimp only) <;> first | assumption | omega | ((try simp (disch := omega) only [w32_of, w64_of, w8_of]) <;> first | assumption | omega | (split <;> omega) | (refine And.intro ?_ ?_ <;> split <;> omega)) | omega) (fun x_47 e_x_47 => ?_)
        have b_x_47 : (-1000000000) ≤ x_47 ∧ x_47 ≤ 1000000000 := by rw [e_x_47]; exact ii_kQ_box hσ _
        try simp (disch := omega) only [w32_of, w64_of, w8_of] at e_x_47
        have c36 := ii_kQ_box hσ 0
        have c38 := w32_rng x_47
        have c39 := w32_rng lowX_0
        refine wp_if (fun c37 => ?_) (fun c37 => ?_)
        · try simp (disch := omega) only [w32_of, w64_of, w8_of, decide_eq_true_eq, decide_eq_false_iff_not, Bool.not_eq_true] at c37
          refine wp_rdI (by (try dsimp only) <;> first | assumption | omega | ((try simp (disch := omega) only [w32_of, w64_of, w8_of]) <;> first | assumption | omega | (split <;> omega) | (refine And.intro ?_ ?_ <;> split <;> omega)) | omega) (by (try dsimp only) <;> first | assumption | omega | ((try simp (disch := omega) only [w32_of, w64_of, w8_of]) <;> first | assumption | omega | (split <;> omega) | (refine And.intro ?_ ?_ <;> split <;> omega)) | omega) (fun x_50 e_x_50 => ?_)
          have b_x_50 : (-1000000000) ≤ x_50 ∧ x_50 ≤ 1000000000 := by rw [e_x_50]; exact ii_kQ_box hσ _
          try simp (disch := omega) only [w32_of, w64_of, w8_of] at e_x_50
          have c40 := ii_kQ_box hσ 2
          have c42 := w32_rng highX_0
          have c43 := w32_rng x_50
          refine wp_if (fun c41 => ?_) (fun c41 => ?_)
          · try simp (disch := omega) only [w32_of, w64_of, w8_of, decide_eq_true_eq, decide_eq_false_iff_not, Bool.not_eq_true] at c41
            refine wp_rdI (by (try dsimp only) <;> first | assumption | omega | ((try simp (disch := omega) only [w32_of, w64_of, w8_of]) <;> first | assumption | omega | (split <;> omega) | (refine And.intro ?_ ?_ <;> split <;> omega)) | omega) (by (try dsimp only) <;> first | assumption | omega | ((try simp (disch := omega) only [w32_of, w64_of, w8_of]) <;> first | assumption | omega | (split <;> omega) | (refine And.intro ?_ ?_ <;> split <;> omega)) | omega) (fun x_53 e_x_53 => ?_)
            have b_x_53 : (-1000000000) ≤ x_53 ∧ x_53 ≤ 1000000000 := by rw [e_x_53]; exact ii_kQ_box hσ _
            try simp (disch := omega) only [w32_of, w64_of, w8_of] at e_x_53
            have c44 := ii_kQ_box hσ 1
            have c46 := w32_rng x_53
            have c47 := w32_rng lowY_0
            refine wp_if (fun c45 => ?_) (fun c45 => ?_)
            · try simp (disch := omega) only [w32_of, w64_of, w8_of, decide_eq_true_eq, decide_eq_false_iff_not, Bool.not_eq_true] at c45
              refine wp_rdI (by (try dsimp only) <;> first | assumption | omega | ((try simp (disch := omega) only [w32_of, w64_of, w8_of]) <;> first | assumption | omega | (split <;> omega) | (refine And.intro ?_ ?_ <;> split <;> omega)) | omega) (by (try dsimp only) <;> first | assumption | omega | ((try simp (disch := omega) only [w32_of, w64_of, w8_of]) <;> first | assumption | omega | (split <;> omega) | (refine And.intro ?_ ?_ <;> split <;> omega)) | omega) (fun x_56 e_x_56 => ?_)
              have b_x_56 : (-1000000000) ≤ x_56 ∧ x_56 ≤ 1000000000 := by rw [e_x_56]; exact ii_kQ_box hσ _
              try simp (disch := omega) only [w32_of, w64_of, w8_of] at e_x_56
              have c48 := ii_kQ_box hσ 3
              have c50 := w32_rng highY_0
              have c51 := w32_rng x_56
              refine wp_if (fun c49 => ?_) (fun c49 => ?_)
              · try simp (disch := omega) only [w32_of, w64_of, w8_of, decide_eq_true_eq, decide_eq_false_iff_not, Bool.not_eq_true] at c49
                exact wp_some trivial
              · try simp (disch := omega) only [w32_of, w64_of, w8_of, decide_eq_true_eq, decide_eq_false_iff_not, Bool.not_eq_true] at c49
                exact wp_some trivial
            · try simp (disch := omega) only [w32_of, w64_of, w8_of, decide_eq_true_eq, decide_eq_false_iff_not, Bool.not_eq_true] at c45
              exact wp_some trivial
          · try simp (disch := omega) only [w32_of, w64_of, w8_of, decide_eq_true_eq, decide_eq_false_iff_not, Bool.not_eq_true] at c41
            exact wp_some trivial
        · try simp (disch := omega) only [w32_of, w64_of, w8_of, decide_eq_true_eq, decide_eq_false_iff_not, Bool.not_eq_true] at c37
          exact wp_some trivial
      rintro x_64 _ -
      exact wp_some trivial
theorem s_Q_find {σ : SG} {what_0 : Int} {lowX_0 : Int} {lowY_0 : Int} {highX_0 : Int} {highY_0 : Int} (hσ : II σ) (qwhat_0 : (-2147483648) ≤ what_0 ∧ what_0 ≤ 2147483647) (qlowX_0 : (-2147483648) ≤ lowX_0 ∧ lowX_0 ≤ 2147483647) (qlowY_0 : (-2147483648) ≤ lowY_0 ∧ lowY_0 ≤ 2147483647) (qhighX_0 : (-2147483648) ≤ highX_0 ∧ highX_0 ≤ 2147483647) (qhighY_0 : (-2147483648) ≤ highY_0 ∧ highY_0 ≤ 2147483647) : wp_ (fQ_find σ what_0 lowX_0 lowY_0 highX_0 highY_0) (fun zz_ => II zz_.2 ∧ FC [kQ_box, kQ_foundCount, kQ_foundSlots] [] σ zz_.2 ∧ (∀ e : Nat, zz_.1 = .inr e → e = 2)) := by
  unfold fQ_find
  have c2 := w32_rng what_0
  have c3 := w32_rng lowX_0
  have c4 := w32_rng lowY_0
  have c5 := w32_rng highX_0
  have c6 := w32_rng highY_0
  refine wp_if (fun c1 => ?_) (fun c1 => ?_)
  · try simp (disch := omega) only [w32_of, w64_of, w8_of, decide_eq_true_eq, decide_eq_false_iff_not, Bool.not_eq_true] at c1
    exact wp_some ⟨hσ, (FC_refl _ _ _), (by (try dsimp only) <;> (intro e9 q9; first | (injection q9; done) | (injection q9 with q8; omega)))⟩
  · try simp (disch := omega) only [w32_of, w64_of, w8_of, decide_eq_true_eq, decide_eq_false_iff_not, Bool.not_eq_true] at c1
    refine wp_wfI hσ b_kQ_foundCount (by (try dsimp only) <;> first | assumption | omega | ((try simp (disch := omega) only [w32_of, w64_of, w8_of]) <;> first | assumption | omega | (split <;> omega) | (refine And.intro ?_ ?_ <;> split <;> omega)) | omega) (fun σ_1 hσ_1 eσ_1 => ?_)
    try simp (disch := omega) only [w32_of, w64_of, w8_of] at eσ_1
    have flσ_1 := FC_sg eσ_1 (by first | decide | (rcases hE with rfl | rfl | rfl <;> decide))
    have frσ_1 : FC [kQ_box, kQ_foundCount, kQ_foundSlots] [] σ σ_1 := FC_le flσ_1 (by first | decide | (rcases hE with rfl | rfl | rfl <;> decide)) (by simp)
    refine wp_bd (P := fun rr_ => II rr_.2 ∧ FC [kQ_box, kQ_foundCount, kQ_foundSlots] [] σ rr_.2 ∧ (True)) ?_ ?_
    · have c7 := ii_kQ_foundCount hσ_1 0
      have c8 := sg_val eσ_1
      refine wp_whl (fun ss_ => II ss_.2 ∧ FC [kQ_box, kQ_foundCount, kQ_foundSlots] [] σ ss_.2 ∧ (0 ≤ ss_.1 ∧ ss_.1 ≤ 32) ∧ (0 ≤ ss_.2 kQ_foundCount 0 ∧ ss_.2 kQ_foundCount 0 ≤ ss_.1)) (fun ss_ => (33 - ss_.1).toNat) ⟨hσ_1, frσ_1, (by (try dsimp only) <;> first | assumption | omega | ((try simp (disch := omega) only [w32_of, w64_of, w8_of]) <;> first | assumption | omega | (split <;> omega) | (refine And.intro ?_ ?_ <;> split <;> omega)) | omega), (by (try dsimp only) <;> first | assumption | omega | ((try simp (disch := omega) only [w32_of, w64_of, w8_of]) <;> first | assumption | omega | (split <;> omega) | (refine And.intro ?_ ?_ <;> split <;> omega)) | omega)⟩ ?_
      rintro ⟨i_2, σ_3⟩ y11
      try dsimp only at y11 ⊢
      obtain ⟨hσ_3, frσ_3, g9, g10⟩ := y11
      have c13 := w32_rng i_2
      refine wp_if (fun c12 => ?_) (fun c12 => ?_)
      · try simp (disch := omega) only [w32_of, w64_of, w8_of, decide_eq_true_eq, decide_eq_false_iff_not, Bool.not_eq_true] at c12
        refine wp_bd (P := fun rr_ => II rr_ ∧ FC [kQ_box, kQ_foundCount, kQ_foundSlots] [] σ rr_ ∧ (0 ≤ rr_ kQ_foundCount 0 ∧ rr_ kQ_foundCount 0 ≤ i_2 + 1)) ?_ ?_
        · refine wp_ck (by (try dsimp only) <;> first | assumption | omega | ((try simp (disch := omega) only [w32_of, w64_of, w8_of]) <;> first | assumption | omega | (split <;> omega) | (refine And.intro ?_ ?_ <;> split <;> omega)) | omega) ?_
          have hw2 := w32_of (x := i_2) (by omega) (by omega)
          refine wp_bd (s_A_putBox (σ := σ_3) (this_0 := (34 + (4 * ((w32 i_2)).toNat))) hσ_3 (by first | assumption | decide | omega)) ?_
          rintro ⟨x_31, σ_30⟩ - y14
          try dsimp only at y14 ⊢
          obtain ⟨hσ_30, flσ_30⟩ := y14
          have frσ_30 : FC [kQ_box, kQ_foundCount, kQ_foundSlots] [] σ σ_30 := FC_tr frσ_3 flσ_30 (by first | decide | (rcases hE with rfl | rfl | rfl <;> decide)) (by first | decide | (rcases hE with rfl | rfl | rfl <;> decide)) (by simp) (by simp)
          refine wp_if (fun c15 => ?_) (fun c15 => ?_)
          · try simp (disch := omega) only [w32_of, w64_of, w8_of, decide_eq_true_eq, decide_eq_false_iff_not, Bool.not_eq_true] at c15
            refine wp_bd (s_Q_boxLies (σ := σ_30) (what_0 := what_0) (lowX_0 := lowX_0) (lowY_0 := lowY_0) (highX_0 := highX_0) (highY_0 := highY_0) hσ_30 (by (try dsimp only) <;> first | assumption | omega | ((try simp (disch := omega) only [w32_of, w64_of, w8_of]) <;> first | assumption | omega | (split <;> omega) | (refine And.intro ?_ ?_ <;> split <;> omega)) | omega) (by (try dsimp only) <;> first | assumption | omega | ((try simp (disch := omega) only [w32_of, w64_of, w8_of]) <;> first | assumption | omega | (split <;> omega) | (refine And.intro ?_ ?_ <;> split <;> omega)) | omega) (by (try dsimp only) <;> first | assumption | omega | ((try simp (disch := omega) only [w32_of, w64_of, w8_of]) <;> first | assumption | omega | (split <;> omega) | (refine And.intro ?_ ?_ <;> split <;> omega)) | omega) (by (try dsimp only) <;> first | assumption | omega | ((try simp (disch := omega) only [w32_of, w64_of, w8_of]) <;> first | assumption | omega | (split <;> omega) | (refine And.intro ?_ ?_ <;> split <;> omega)) | omega) (by (try dsimp only) <;> first | assumption | omega | ((try simp (disch := omega) only [w32_of, w64_of, w8_of]) <;> first | assumption | omega | (split <;> omega) | (refine And.intro ?_ ?_ <;> split <;> omega)) | omega)) ?_
            rintro x_34 - -
            refine wp_if (fun c17 => ?_) (fun c17 => ?_)
            · try simp (disch := omega) only [w32_of, w64_of, w8_of, decide_eq_true_eq, decide_eq_false_iff_not, Bool.not_eq_true] at c17
              have c18 := ii_kQ_foundCount hσ_30 0
              have c19 := FC_at flσ_30 (c := kQ_foundCount) (by first | decide | (rcases hE with rfl | rfl | rfl <;> decide)) 0
              have c20 := ii_kQ_foundCount hσ_3 0
              have c21 := w32_rng (σ_30 kQ_foundCount 0)
              refine wp_waI hσ_30 b_kQ_foundSlots (by (try dsimp only) <;> first | assumption | omega | ((try simp (disch := omega) only [w32_of, w64_of, w8_of]) <;> first | assumption | omega | (split <;> omega) | (refine And.intro ?_ ?_ <;> split <;> omega)) | omega) (by (try dsimp only) <;> first | assumption | omega | ((try simp (disch := omega) only [w32_of, w64_of, w8_of]) <;> first | assumption | omega | (split <;> omega) | (refine And.intro ?_ ?_ <;> split <;> omega)) | omega) (by (try dsimp only) <;> first | assumption | omega | ((try simp (disch := omega) only [w32_of, w64_of, w8_of]) <;> first | assumption | omega | (split <;> omega) | (refine And.intro ?_ ?_ <;> split <;> omega)) | omega) (fun σ_36 hσ_36 eσ_36 => ?_)
              try simp (disch := omega) only [w32_of, w64_of, w8_of] at eσ_36
              have flσ_36 := FC_sg eσ_36 (by first | decide | (rcases hE with rfl | rfl | rfl <;> decide))
              have frσ_36 : FC [kQ_box, kQ_foundCount, kQ_foundSlots] [] σ σ_36 := FC_tr frσ_30 flσ_36 (by first | decide | (rcases hE with rfl | rfl | rfl <;> decide)) (by first | decide | (rcases hE with rfl | rfl | rfl <;> decide)) (by simp) (by simp)
              have c22 := ii_kQ_foundCount hσ_36 0
              have c23 := FC_at flσ_36 (c := kQ_foundCount) (by first | decide | (rcases hE with rfl | rfl | rfl <;> decide)) 0
              refine wp_wfI hσ_36 b_kQ_foundCount (by (try dsimp only) <;> first | assumption | omega | ((try simp (disch := omega) only [w32_of, w64_of, w8_of]) <;> first | assumption | omega | (split <;> omega) | (refine And.intro ?_ ?_ <;> split <;> omega)) | omega) (fun σ_38 hσ_38 eσ_38 => ?_)
              try simp (disch := omega) only [w32_of, w64_of, w8_of] at eσ_38
              have flσ_38 := FC_sg eσ_38 (by first | decide | (rcases hE with rfl | rfl | rfl <;> decide))
              have frσ_38 : FC [kQ_box, kQ_foundCount, kQ_foundSlots] [] σ σ_38 := FC_tr frσ_36 flσ_38 (by first | decide | (rcases hE with rfl | rfl | rfl <;> decide)) (by first | decide | (rcases hE with rfl | rfl | rfl <;> decide)) (by simp) (by simp)
              have c24 := ii_kQ_foundCount hσ_38 0
              have c25 := sg_val eσ_38
              exact wp_some ⟨hσ_38, frσ_38, (by (try dsimp only) <;> first | assumption | omega | ((try simp (disch := omega) only [w32_of, w64_of, w8_of]) <;> first | assumption | omega | (split <;> omega) | (refine And.intro ?_ ?_ <;> split <;> omega)) | omega)⟩
            · try simp (disch := omega) only [w32_of, w64_of, w8_of, decide_eq_true_eq, decide_eq_false_iff_not, Bool.not_eq_true] at c17
              have c26 := ii_kQ_foundCount hσ_30 0
              have c27 := FC_at flσ_30 (c := kQ_foundCount) (by first | decide | (rcases hE with rfl | rfl | rfl <;> decide)) 0
              have c28 := ii_kQ_foundCount hσ_3 0
              exact wp_some ⟨hσ_30, frσ_30, (by (try dsimp only) <;> first | assumption | omega | ((try simp (disch := omega) only [w32_of, w64_of, w8_of]) <;> first | assumption | omega | (split <;> omega) | (refine And.intro ?_ ?_ <;> split <;> omega)) | omega)⟩
          · try simp (disch := omega) only [w32_of, w64_of, w8_of, decide_eq_true_eq, decide_eq_false_iff_not, Bool.not_eq_true] at c15
            have c29 := ii_kQ_foundCount hσ_30 0
            have c30 := FC_at flσ_30 (c := kQ_foundCount) (by first | decide | (rcases hE with rfl | rfl | rfl <;> decide)) 0
            have c31 := ii_kQ_foundCount hσ_3 0
            exact wp_some ⟨hσ_30, frσ_30, (by (try dsimp only) <;> first | assumption | omega | ((try simp (disch := omega) only [w32_of, w64_of, w8_of]) <;> first | assumption | omega | (split <;> omega) | (refine And.intro ?_ ?_ <;> split <;> omega)) | omega)⟩
        rintro σ_42 _ ⟨hσ_42, frσ_42, g32⟩
        have c33 := ii_kQ_foundCount hσ_42 0
        exact wp_some (x_inl ⟨⟨hσ_42, frσ_42, (by (try dsimp only) <;> first | assumption | omega | ((try simp (disch := omega) only [w32_of, w64_of, w8_of]) <;> first | assumption | omega | (split <;> omega) | (refine And.intro ?_ ?_ <;> split <;> omega)) | omega), (by (try dsimp only) <;> first | assumption | omega | ((try simp (disch := omega) only [w32_of, w64_of, w8_of]) <;> first | assumption | omega | (split <;> omega) | (refine And.intro ?_ ?_ <;> split <;> omega)) | omega)⟩, (by (try dsimp only) <;> first | assumption | omega | ((try simp (disch := omega) only [w32_of, w64_of, w8_of]) <;> first | assumption | omega | (split <;> omega) | (refine And.intro ?_ ?_ <;> split <;> omega)) | omega)⟩)
      · try simp (disch := omega) only [w32_of, w64_of, w8_of, decide_eq_true_eq, decide_eq_false_iff_not, Bool.not_eq_true] at c12
        exact wp_some (x_inr ⟨hσ_3, frσ_3, (by (try dsimp only) <;> first | assumption | omega | ((try simp (disch := omega) only [w32_of, w64_of, w8_of]) <;> first | assumption | omega | (split <;> omega) | (refine And.intro ?_ ?_ <;> split <;> omega)) | omega)⟩)
    rintro ⟨i_46, σ_47⟩ _ y35
    try dsimp only at y35 ⊢
    obtain ⟨hσ_47, frσ_47, g34⟩ := y35
    have c36 := ii_kQ_foundCount hσ_47 0
    exact wp_some ⟨hσ_47, frσ_47, (by (try dsimp only) <;> (intro e9 q9; first | (injection q9; done) | (injection q9 with q8; omega)))⟩
theorem s_Q_distanceFromBox {σ : SG} {x_0 : Int} {y_0 : Int} (hσ : II σ) (qx_0 : (-1000000000) ≤ x_0 ∧ x_0 ≤ 1000000000) (qy_0 : (-1000000000) ≤ y_0 ∧ y_0 ≤ 1000000000) : wp_ (fQ_distanceFromBox σ x_0 y_0) (fun zz_ => True) := by
  unfold fQ_distanceFromBox
  refine wp_rdI (by (try dsimp only) <;> first | assumption | omega | ((try simp (disch := omega) only [w32_of, w64_of, w8_of]) <;> first | assumption | omega | (split <;> omega) | (refine And.intro ?_ ?_ <;> split <;> omega)) | omega) (by (try dsimp only) <;> first | assumption | omega | ((try simp (disch := omega) only [w32_of, w64_of, w8_of]) <;> first | assumption | omega | (split <;> omega) | (refine And.intro ?_ ?_ <;> split <;> omega)) | omega) (fun x_1 e_x_1 => ?_)
  have b_x_1 : (-1000000000) ≤ x_1 ∧ x_1 ≤ 1000000000 := by rw [e_x_1]; exact ii_kQ_box hσ _
  try simp (disch := omega) only [w32_of, w64_of, w8_of] at e_x_1
  have c1 := ii_kQ_box hσ 0
  refine wp_rdI (by (try dsimp only) <;> first | assumption | omega | ((try simp (disch := omega) only [w32_of, w64_of, w8_of]) <;> first | assumption | omega | (split <;> omega) | (refine And.intro ?_ ?_ <;> split <;> omega)) | omega) (by (try dsimp only) <;> first | assumption | omega | ((try simp (disch := omega) only [w32_of, w64_of, w8_of]) <;> first | assumption | omega | (split <;> omega) | (refine And.intro ?_ ?_ <;> split <;> omega)) | omega) (fun x_3 e_x_3 => ?_)
  have b_x_3 : (-1000000000) ≤ x_3 ∧ x_3 ≤ 1000000000 := by rw [e_x_3]; exact ii_kQ_box hσ _
  try simp (disch := omega) only [w32_of, w64_of, w8_of] at e_x_3
  have c2 := ii_kQ_box hσ 2
  have c3 := w32_rng x_1
  have c4 := w32_rng x_0
  have c5 := w32_rng x_3
  have c6 := q_mxl_bd ((w32 x_1) - (w32 x_0)) ((w32 x_0) - (w32 x_3))
  try simp (disch := omega) only [w32_of, w64_of, w8_of] at c6
  have c7 := q_mxl_bd 0 (q_mxl ((w32 x_1) - (w32 x_0)) ((w32 x_0) - (w32 x_3)))
  try simp (disch := omega) only [w32_of, w64_of, w8_of] at c7
  refine wp_lt (fun x_5 e_x_5 => ?_)
  try simp (disch := omega) only [w32_of, w64_of, w8_of] at e_x_5
  refine wp_rdI (by (try dsimp only) <;> first | assumption | omega | ((try simp (disch := omega) only [w32_of, w64_of, w8_of]) <;> first | assumption | omega | (split <;> omega) | (refine And.intro ?_ ?_ <;> split <;> omega)) | omega) (by (try dsimp only) <;> first | assumption | omega | ((try simp (disch := omega) only [w32_of, w64_of, w8_of]) <;> first | assumption | omega | (split <;> omega) | (refine And.intro ?_ ?_ <;> split <;> omega)) | omega) (fun x_6 e_x_6 => ?_)
  have b_x_6 : (-1000000000) ≤ x_6 ∧ x_6 ≤ 1000000000 := by rw [e_x_6]; exact ii_kQ_box hσ _
  try simp (disch := omega) only [w32_of, w64_of, w8_of] at e_x_6
  have c8 := ii_kQ_box hσ 1
  refine wp_rdI (by (try dsimp only) <;> first | assumption | omega | ((try simp (disch := omega) only [w32_of, w64_of, w8_of]) <;> first | assumption | omega | (split <;> omega) | (refine And.intro ?_ ?_ <;> split <;> omega)) | omega) (by (try dsimp only) <;> first | assumption | omega | ((try simp (disch := omega) only [w32_of, w64_of, w8_of]) <;> first | assumption | omega | (split <;> omega) | (refine And.intro ?_ ?_ <;> split <;> omega)) | omega) (fun x_8 e_x_8 => ?_)
  have b_x_8 : (-1000000000) ≤ x_8 ∧ x_8 ≤ 1000000000 := by rw [e_x_8]; exact ii_kQ_box hσ _
  try simp (disch := omega) only [w32_of, w64_of, w8_of] at e_x_8
  have c9 := ii_kQ_box hσ 3
  have c10 := w32_rng x_6
  have c11 := w32_rng y_0
  have c12 := w32_rng x_8
  have c13 := q_mxl_bd ((w32 x_6) - (w32 y_0)) ((w32 y_0) - (w32 x_8))
  try simp (disch := omega) only [w32_of, w64_of, w8_of] at c13
  have c14 := q_mxl_bd 0 (q_mxl ((w32 x_6) - (w32 y_0)) ((w32 y_0) - (w32 x_8)))
  try simp (disch := omega) only [w32_of, w64_of, w8_of] at c14
  refine wp_lt (fun x_10 e_x_10 => ?_)
  try simp (disch := omega) only [w32_of, w64_of, w8_of] at e_x_10
  exact wp_some trivial
theorem s_Q_insertByDistance {σ : SG} {boxes_0 : Int} {slot_0 : Int} {distance_0 : Int} (hσ : II σ) (qslot_0 : 0 ≤ slot_0 ∧ slot_0 ≤ 31) (w0 : 0 ≤ boxes_0 ∧ boxes_0 ≤ 31) : wp_ (fQ_insertByDistance σ boxes_0 slot_0 distance_0) (fun zz_ => II zz_ ∧ FC [kQ_foundKeys, kQ_foundSlots] [] σ zz_) := by
  unfold fQ_insertByDistance
  refine wp_bd (P := fun rr_ => II rr_.2 ∧ FC [kQ_foundKeys, kQ_foundSlots] [] σ rr_.2 ∧ (0 ≤ rr_.1 ∧ rr_.1 ≤ 31)) ?_ ?_
  · refine wp_whl (fun ss_ => II ss_.2 ∧ FC [kQ_foundKeys, kQ_foundSlots] [] σ ss_.2 ∧ (0 ≤ ss_.1 ∧ ss_.1 ≤ 31)) (fun ss_ => ss_.1.toNat) ⟨hσ, (FC_refl _ _ _), (by (try dsimp only) <;> first | assumption | omega | ((try simp (disch := omega) only [w32_of, w64_of, w8_of]) <;> first | assumption | omega | (split <;> omega) | (refine And.intro ?_ ?_ <;> split <;> omega)) | omega)⟩ ?_
    rintro ⟨at_1, σ_2⟩ y2
    try dsimp only at y2 ⊢
    obtain ⟨hσ_2, frσ_2, g1⟩ := y2
    have c4 := w32_rng at_1
    refine wp_if (fun c3 => ?_) (fun c3 => ?_)
    · try simp (disch := omega) only [w32_of, w64_of, w8_of, decide_eq_true_eq, decide_eq_false_iff_not, Bool.not_eq_true] at c3
      have c5 := w32_rng (at_1 - 1)
      refine wp_rdI (by (try dsimp only) <;> first | assumption | omega | ((try simp (disch := omega) only [w32_of, w64_of, w8_of]) <;> first | assumption | omega | (split <;> omega) | (refine And.intro ?_ ?_ <;> split <;> omega)) | omega) (by (try dsimp only) <;> first | assumption | omega | ((try simp (disch := omega) only [w32_of, w64_of, w8_of]) <;> first | assumption | omega | (split <;> omega) | (refine And.intro ?_ ?_ <;> split <;> omega)) | omega) (fun x_19 e_x_19 => ?_)
      try simp (disch := omega) only [w32_of, w64_of, w8_of] at e_x_19
      have c7 := w64_rng distance_0
      have c8 := w64_rng x_19
      refine wp_if (fun c6 => ?_) (fun c6 => ?_)
      · try simp (disch := omega) only [w32_of, w64_of, w8_of, decide_eq_true_eq, decide_eq_false_iff_not, Bool.not_eq_true] at c6
        refine wp_rdI (by (try dsimp only) <;> first | assumption | omega | ((try simp (disch := omega) only [w32_of, w64_of, w8_of]) <;> first | assumption | omega | (split <;> omega) | (refine And.intro ?_ ?_ <;> split <;> omega)) | omega) (by (try dsimp only) <;> first | assumption | omega | ((try simp (disch := omega) only [w32_of, w64_of, w8_of]) <;> first | assumption | omega | (split <;> omega) | (refine And.intro ?_ ?_ <;> split <;> omega)) | omega) (fun x_22 e_x_22 => ?_)
        try simp (disch := omega) only [w32_of, w64_of, w8_of] at e_x_22
        refine wp_waN hσ_2 b_kQ_foundKeys (by (try dsimp only) <;> first | assumption | omega | ((try simp (disch := omega) only [w32_of, w64_of, w8_of]) <;> first | assumption | omega | (split <;> omega) | (refine And.intro ?_ ?_ <;> split <;> omega)) | omega) (by (try dsimp only) <;> first | assumption | omega | ((try simp (disch := omega) only [w32_of, w64_of, w8_of]) <;> first | assumption | omega | (split <;> omega) | (refine And.intro ?_ ?_ <;> split <;> omega)) | omega) (fun σ_24 hσ_24 eσ_24 => ?_)
        try simp (disch := omega) only [w32_of, w64_of, w8_of] at eσ_24
        have flσ_24 := FC_sg eσ_24 (by first | decide | (rcases hE with rfl | rfl | rfl <;> decide))
        have frσ_24 : FC [kQ_foundKeys, kQ_foundSlots] [] σ σ_24 := FC_tr frσ_2 flσ_24 (by first | decide | (rcases hE with rfl | rfl | rfl <;> decide)) (by first | decide | (rcases hE with rfl | rfl | rfl <;> decide)) (by simp) (by simp)
        refine wp_rdI (by (try dsimp only) <;> first | assumption | omega | ((try simp (disch := omega) only [w32_of, w64_of, w8_of]) <;> first | assumption | omega | (split <;> omega) | (refine And.intro ?_ ?_ <;> split <;> omega)) | omega) (by (try dsimp only) <;> first | assumption | omega | ((try simp (disch := omega) only [w32_of, w64_of, w8_of]) <;> first | assumption | omega | (split <;> omega) | (refine And.intro ?_ ?_ <;> split <;> omega)) | omega) (fun x_26 e_x_26 => ?_)
        have b_x_26 : 0 ≤ x_26 ∧ x_26 ≤ 31 := by rw [e_x_26]; exact ii_kQ_foundSlots hσ_24 _
        try simp (disch := omega) only [w32_of, w64_of, w8_of] at e_x_26
        have c9 := ii_kQ_foundSlots hσ_24 (at_1 - 1)
        have c10 := FC_at flσ_24 (c := kQ_foundSlots) (by first | decide | (rcases hE with rfl | rfl | rfl <;> decide)) (at_1 - 1)
        have c11 := ii_kQ_foundSlots hσ_2 (at_1 - 1)
        refine wp_waI hσ_24 b_kQ_foundSlots (by (try dsimp only) <;> first | assumption | omega | ((try simp (disch := omega) only [w32_of, w64_of, w8_of]) <;> first | assumption | omega | (split <;> omega) | (refine And.intro ?_ ?_ <;> split <;> omega)) | omega) (by (try dsimp only) <;> first | assumption | omega | ((try simp (disch := omega) only [w32_of, w64_of, w8_of]) <;> first | assumption | omega | (split <;> omega) | (refine And.intro ?_ ?_ <;> split <;> omega)) | omega) (by (try dsimp only) <;> first | assumption | omega | ((try simp (disch := omega) only [w32_of, w64_of, w8_of]) <;> first | assumption | omega | (split <;> omega) | (refine And.intro ?_ ?_ <;> split <;> omega)) | omega) (fun σ_28 hσ_28 eσ_28 => ?_)
        try simp (disch := omega) only [w32_of, w64_of, w8_of] at eσ_28
        have flσ_28 := FC_sg eσ_28 (by first | decide | (rcases hE with rfl | rfl | rfl <;> decide))
        have frσ_28 : FC [kQ_foundKeys, kQ_foundSlots] [] σ σ_28 := FC_tr frσ_24 flσ_28 (by first | decide | (rcases hE with rfl | rfl | rfl <;> decide)) (by first | decide | (rcases hE with rfl | rfl | rfl <;> decide)) (by simp) (by simp)
        exact wp_some (x_inl ⟨⟨hσ_28, frσ_28, (by (try dsimp only) <;> first | assumption | omega | ((try simp (disch := omega) only [w32_of, w64_of, w8_of]) <;> first | assumption | omega | (split <;> omega) | (refine And.intro ?_ ?_ <;> split <;> omega)) | omega)⟩, (by (try dsimp only) <;> first | assumption | omega | ((try simp (disch := omega) only [w32_of, w64_of, w8_of]) <;> first | assumption | omega | (split <;> omega) | (refine And.intro ?_ ?_ <;> split <;> omega)) | omega)⟩)
      · try simp (disch := omega) only [w32_of, w64_of, w8_of, decide_eq_true_eq, decide_eq_false_iff_not, Bool.not_eq_true] at c6
        exact wp_some (x_inr ⟨hσ_2, frσ_2, (by (try dsimp only) <;> first | assumption | omega | ((try simp (disch := omega) only [w32_of, w64_of, w8_of]) <;> first | assumption | omega | (split <;> omega) | (refine And.intro ?_ ?_ <;> split <;> omega)) | omega)⟩)
    · try simp (disch := omega) only [w32_of, w64_of, w8_of, decide_eq_true_eq, decide_eq_false_iff_not, Bool.not_eq_true] at c3
      exact wp_some (x_inr ⟨hσ_2, frσ_2, (by (try dsimp only) <;> first | assumption | omega | ((try simp (disch := omega) only [w32_of, w64_of, w8_of]) <;> first | assumption | omega | (split <;> omega) | (refine And.intro ?_ ?_ <;> split <;> omega)) | omega)⟩)
  rintro ⟨at_33, σ_34⟩ _ y13
  try dsimp only at y13 ⊢
  obtain ⟨hσ_34, frσ_34, g12⟩ := y13
  have c14 := w32_rng at_33
  refine wp_waN hσ_34 b_kQ_foundKeys (by (try dsimp only) <;> first | assumption | omega | ((try simp (disch := omega) only [w32_of, w64_of, w8_of]) <;> first | assumption | omega | (split <;> omega) | (refine And.intro ?_ ?_ <;> split <;> omega)) | omega) (by (try dsimp only) <;> first | assumption | omega | ((try simp (disch := omega) only [w32_of, w64_of, w8_of]) <;> first | assumption | omega | (split <;> omega) | (refine And.intro ?_ ?_ <;> split <;> omega)) | omega) (fun σ_35 hσ_35 eσ_35 => ?_)
  try simp (disch := omega) only [w32_of, w64_of, w8_of] at eσ_35
  have flσ_35 := FC_sg eσ_35 (by first | decide | (rcases hE with rfl | rfl | rfl <;> decide))
  have frσ_35 : FC [kQ_foundKeys, kQ_foundSlots] [] σ σ_35 := FC_tr frσ_34 flσ_35 (by first | decide | (rcases hE with rfl | rfl | rfl <;> decide)) (by first | decide | (rcases hE with rfl | rfl | rfl <;> decide)) (by simp) (by simp)
  refine wp_waI hσ_35 b_kQ_foundSlots (by (try dsimp only) <;> first | assumption | omega | ((try simp (disch := omega) only [w32_of, w64_of, w8_of]) <;> first | assumption | omega | (split <;> omega) | (refine And.intro ?_ ?_ <;> split <;> omega)) | omega) (by (try dsimp only) <;> first | assumption | omega | ((try simp (disch := omega) only [w32_of, w64_of, w8_of]) <;> first | assumption | omega | (split <;> omega) | (refine And.intro ?_ ?_ <;> split <;> omega)) | omega) (by (try dsimp only) <;> first | assumption | omega | ((try simp (disch := omega) only [w32_of, w64_of, w8_of]) <;> first | assumption | omega | (split <;> omega) | (refine And.intro ?_ ?_ <;> split <;> omega)) | omega) (fun σ_37 hσ_37 eσ_37 => ?_)
  try simp (disch := omega) only [w32_of, w64_of, w8_of] at eσ_37
  have flσ_37 := FC_sg eσ_37 (by first | decide | (rcases hE with rfl | rfl | rfl <;> decide))
  have frσ_37 : FC [kQ_foundKeys, kQ_foundSlots] [] σ σ_37 := FC_tr frσ_35 flσ_37 (by first | decide | (rcases hE with rfl | rfl | rfl <;> decide)) (by first | decide | (rcases hE with rfl | rfl | rfl <;> decide)) (by simp) (by simp)
  exact wp_some ⟨hσ_37, frσ_37⟩
theorem s_Q_nearest {σ : SG} {x_0 : Int} {y_0 : Int} {n_0 : Int} (hσ : II σ) (qx_0 : (-2147483648) ≤ x_0 ∧ x_0 ≤ 2147483647) (qy_0 : (-2147483648) ≤ y_0 ∧ y_0 ≤ 2147483647) (qn_0 : (-2147483648) ≤ n_0 ∧ n_0 ≤ 2147483647) : wp_ (fQ_nearest σ x_0 y_0 n_0) (fun zz_ => II zz_.2 ∧ FC [kQ_box, kQ_foundCount, kQ_foundKeys, kQ_foundSlots] [] σ zz_.2 ∧ (∀ e : Nat, zz_.1 = .inr e → e = 2)) := by
  unfold fQ_nearest
  have c2 := w32_rng n_0
  refine wp_if (fun c1 => ?_) (fun c1 => ?_)
  · try simp (disch := omega) only [w32_of, w64_of, w8_of, decide_eq_true_eq, decide_eq_false_iff_not, Bool.not_eq_true, fQ_isBeyond] at c1
    exact wp_some ⟨hσ, (FC_refl _ _ _), (by (try dsimp only) <;> (intro e9 q9; first | (injection q9; done) | (injection q9 with q8; omega)))⟩
  · try simp (disch := omega) only [w32_of, w64_of, w8_of, decide_eq_true_eq, decide_eq_false_iff_not, Bool.not_eq_true, fQ_isBeyond] at c1
    refine wp_bd (P := fun rr_ => II rr_.2.2 ∧ FC [kQ_box, kQ_foundCount, kQ_foundKeys, kQ_foundSlots] [] σ rr_.2.2 ∧ (0 ≤ rr_.1 ∧ rr_.1 ≤ 32)) ?_ ?_
    · refine wp_whl (fun ss_ => II ss_.2.2 ∧ FC [kQ_box, kQ_foundCount, kQ_foundKeys, kQ_foundSlots] [] σ ss_.2.2 ∧ (0 ≤ ss_.2.1 ∧ ss_.2.1 ≤ 32) ∧ (0 ≤ ss_.1 ∧ ss_.1 ≤ ss_.2.1)) (fun ss_ => (33 - ss_.2.1).toNat) ⟨hσ, (FC_refl _ _ _), (by (try dsimp only) <;> first | assumption | omega | ((try simp (disch := omega) only [w32_of, w64_of, w8_of]) <;> first | assumption | omega | (split <;> omega) | (refine And.intro ?_ ?_ <;> split <;> omega)) | omega), (by (try dsimp only) <;> first | assumption | omega | ((try simp (disch := omega) only [w32_of, w64_of, w8_of]) <;> first | assumption | omega | (split <;> omega) | (refine And.intro ?_ ?_ <;> split <;> omega)) | omega)⟩ ?_
      rintro ⟨boxes_1, i_2, σ_3⟩ y5
      try dsimp only at y5 ⊢
      obtain ⟨hσ_3, frσ_3, g3, g4⟩ := y5
      have c7 := w32_rng i_2
      refine wp_if (fun c6 => ?_) (fun c6 => ?_)
      · try simp (disch := omega) only [w32_of, w64_of, w8_of, decide_eq_true_eq, decide_eq_false_iff_not, Bool.not_eq_true] at c6
        refine wp_bd (P := fun rr_ => II rr_.2 ∧ FC [kQ_box, kQ_foundCount, kQ_foundKeys, kQ_foundSlots] [] σ rr_.2 ∧ (0 ≤ rr_.1 ∧ rr_.1 ≤ i_2 + 1)) ?_ ?_
        · refine wp_ck (by (try dsimp only) <;> first | assumption | omega | ((try simp (disch := omega) only [w32_of, w64_of, w8_of]) <;> first | assumption | omega | (split <;> omega) | (refine And.intro ?_ ?_ <;> split <;> omega)) | omega) ?_
          have hw2 := w32_of (x := i_2) (by omega) (by omega)
          refine wp_bd (s_A_putBox (σ := σ_3) (this_0 := (34 + (4 * ((w32 i_2)).toNat))) hσ_3 (by first | assumption | decide | omega)) ?_
          rintro ⟨x_19, σ_18⟩ - y8
          try dsimp only at y8 ⊢
          obtain ⟨hσ_18, flσ_18⟩ := y8
          have frσ_18 : FC [kQ_box, kQ_foundCount, kQ_foundKeys, kQ_foundSlots] [] σ σ_18 := FC_tr frσ_3 flσ_18 (by first | decide | (rcases hE with rfl | rfl | rfl <;> decide)) (by first | decide | (rcases hE with rfl | rfl | rfl <;> decide)) (by simp) (by simp)
          refine wp_if (fun c9 => ?_) (fun c9 => ?_)
          · try simp (disch := omega) only [w32_of, w64_of, w8_of, decide_eq_true_eq, decide_eq_false_iff_not, Bool.not_eq_true] at c9
            refine wp_bd (s_Q_distanceFromBox (σ := σ_18) (x_0 := x_0) (y_0 := y_0) hσ_18 (by (try dsimp only) <;> first | assumption | omega | ((try simp (disch := omega) only [w32_of, w64_of, w8_of]) <;> first | assumption | omega | (split <;> omega) | (refine And.intro ?_ ?_ <;> split <;> omega)) | omega) (by (try dsimp only) <;> first | assumption | omega | ((try simp (disch := omega) only [w32_of, w64_of, w8_of]) <;> first | assumption | omega | (split <;> omega) | (refine And.intro ?_ ?_ <;> split <;> omega)) | omega)) ?_
            rintro x_22 - -
            refine wp_bd (s_Q_insertByDistance (σ := σ_18) (boxes_0 := boxes_1) (slot_0 := i_2) (distance_0 := x_22) hσ_18 (by (try dsimp only) <;> first | assumption | omega | ((try simp (disch := omega) only [w32_of, w64_of, w8_of]) <;> first | assumption | omega | (split <;> omega) | (refine And.intro ?_ ?_ <;> split <;> omega)) | omega) (by (try dsimp only) <;> first | assumption | omega | ((try simp (disch := omega) only [w32_of, w64_of, w8_of]) <;> first | assumption | omega | (split <;> omega) | (refine And.intro ?_ ?_ <;> split <;> omega)) | omega)) ?_
            rintro σ_24 - ⟨hσ_24, flσ_24⟩
            have frσ_24 : FC [kQ_box, kQ_foundCount, kQ_foundKeys, kQ_foundSlots] [] σ σ_24 := FC_tr frσ_18 flσ_24 (by first | decide | (rcases hE with rfl | rfl | rfl <;> decide)) (by first | decide | (rcases hE with rfl | rfl | rfl <;> decide)) (by simp) (by simp)
            exact wp_some ⟨hσ_24, frσ_24, (by (try dsimp only) <;> first | assumption | omega | ((try simp (disch := omega) only [w32_of, w64_of, w8_of]) <;> first | assumption | omega | (split <;> omega) | (refine And.intro ?_ ?_ <;> split <;> omega)) | omega)⟩
          · try simp (disch := omega) only [w32_of, w64_of, w8_of, decide_eq_true_eq, decide_eq_false_iff_not, Bool.not_eq_true] at c9
            exact wp_some ⟨hσ_18, frσ_18, (by (try dsimp only) <;> first | assumption | omega | ((try simp (disch := omega) only [w32_of, w64_of, w8_of]) <;> first | assumption | omega | (split <;> omega) | (refine And.intro ?_ ?_ <;> split <;> omega)) | omega)⟩
        rintro ⟨boxes_27, σ_28⟩ _ y12
        try dsimp only at y12 ⊢
        obtain ⟨hσ_28, frσ_28, g11⟩ := y12
        exact wp_some (x_inl ⟨⟨hσ_28, frσ_28, (by (try dsimp only) <;> first | assumption | omega | ((try simp (disch := omega) only [w32_of, w64_of, w8_of]) <;> first | assumption | omega | (split <;> omega) | (refine And.intro ?_ ?_ <;> split <;> omega)) | omega), (by (try dsimp only) <;> first | assumption | omega | ((try simp (disch := omega) only [w32_of, w64_of, w8_of]) <;> first | assumption | omega | (split <;> omega) | (refine And.intro ?_ ?_ <;> split <;> omega)) | omega)⟩, (by (try dsimp only) <;> first | assumption | omega | ((try simp (disch := omega) only [w32_of, w64_of, w8_of]) <;> first | assumption | omega | (split <;> omega) | (refine And.intro ?_ ?_ <;> split <;> omega)) | omega)⟩)
      · try simp (disch := omega) only [w32_of, w64_of, w8_of, decide_eq_true_eq, decide_eq_false_iff_not, Bool.not_eq_true] at c6
        exact wp_some (x_inr ⟨hσ_3, frσ_3, (by (try dsimp only) <;> first | assumption | omega | ((try simp (disch := omega) only [w32_of, w64_of, w8_of]) <;> first | assumption | omega | (split <;> omega) | (refine And.intro ?_ ?_ <;> split <;> omega)) | omega)⟩)
    rintro ⟨boxes_32, i_33, σ_34⟩ _ y14
    try dsimp only at y14 ⊢
    obtain ⟨hσ_34, frσ_34, g13⟩ := y14
    have c15 := q_mni_bd n_0 boxes_32
    try simp (disch := omega) only [w32_of, w64_of, w8_of] at c15
    refine wp_wfI hσ_34 b_kQ_foundCount (by (try dsimp only) <;> first | assumption | omega | ((try simp (disch := omega) only [w32_of, w64_of, w8_of]) <;> first | assumption | omega | (split <;> omega) | (refine And.intro ?_ ?_ <;> split <;> omega)) | omega) (fun σ_35 hσ_35 eσ_35 => ?_)
    try simp (disch := omega) only [w32_of, w64_of, w8_of] at eσ_35
    have flσ_35 := FC_sg eσ_35 (by first | decide | (rcases hE with rfl | rfl | rfl <;> decide))
    have frσ_35 : FC [kQ_box, kQ_foundCount, kQ_foundKeys, kQ_foundSlots] [] σ σ_35 := FC_tr frσ_34 flσ_35 (by first | decide | (rcases hE with rfl | rfl | rfl <;> decide)) (by first | decide | (rcases hE with rfl | rfl | rfl <;> decide)) (by simp) (by simp)
    have c16 := ii_kQ_foundCount hσ_35 0
    have c17 := sg_val eσ_35
    exact wp_some ⟨hσ_35, frσ_35, (by (try dsimp only) <;> (intro e9 q9; first | (injection q9; done) | (injection q9 with q8; omega)))⟩
theorem s_Q_side {σ : SG} {i_0 : Int} {j_0 : Int} {k_0 : Int} (hσ : II σ) (qi_0 : (-2147483648) ≤ i_0 ∧ i_0 ≤ 2147483647) (qj_0 : (-2147483648) ≤ j_0 ∧ j_0 ≤ 2147483647) (qk_0 : (-2147483648) ≤ k_0 ∧ k_0 ≤ 2147483647) : wp_ (fQ_side σ i_0 j_0 k_0) (fun zz_ => II zz_.2 ∧ FC [65536, 65792, 66048, 66304, 66560, 66816, 67072, 67328, 67584, 67840, 68096, 68352, 68608, 68864, 69120, 69376, kI_sign, kI_used] [] σ zz_.2 ∧ (∀ e : Nat, zz_.1 = .inr e → e = 0)) := by
  unfold fQ_side
  refine wp_if (fun c1 => ?_) (fun c1 => ?_)
  · try simp (disch := omega) only [w32_of, w64_of, w8_of, decide_eq_true_eq, decide_eq_false_iff_not, Bool.not_eq_true, fQ_isNoSignPoint] at c1
    exact wp_some ⟨hσ, (FC_refl _ _ _), (by (try dsimp only) <;> (intro e9 q9; first | (injection q9; done) | (injection q9 with q8; omega)))⟩
  · try simp (disch := omega) only [w32_of, w64_of, w8_of, decide_eq_true_eq, decide_eq_false_iff_not, Bool.not_eq_true, fQ_isNoSignPoint] at c1
    refine wp_bd (s_I_sideSign (σ := σ) (i_0 := i_0) (j_0 := j_0) (k_0 := k_0) hσ (by (try dsimp only) <;> first | assumption | omega | ((try simp (disch := omega) only [w32_of, w64_of, w8_of]) <;> first | assumption | omega | (split <;> omega) | (refine And.intro ?_ ?_ <;> split <;> omega)) | omega) (by (try dsimp only) <;> first | assumption | omega | ((try simp (disch := omega) only [w32_of, w64_of, w8_of]) <;> first | assumption | omega | (split <;> omega) | (refine And.intro ?_ ?_ <;> split <;> omega)) | omega) (by (try dsimp only) <;> first | assumption | omega | ((try simp (disch := omega) only [w32_of, w64_of, w8_of]) <;> first | assumption | omega | (split <;> omega) | (refine And.intro ?_ ?_ <;> split <;> omega)) | omega)) ?_
    rintro ⟨x_3, σ_2⟩ - y2
    try dsimp only at y2 ⊢
    obtain ⟨hσ_2, flσ_2⟩ := y2
    have frσ_2 : FC [65536, 65792, 66048, 66304, 66560, 66816, 67072, 67328, 67584, 67840, 68096, 68352, 68608, 68864, 69120, 69376, kI_sign, kI_used] [] σ σ_2 := FC_le flσ_2 (by first | decide | (rcases hE with rfl | rfl | rfl <;> decide)) (by simp)
    exact wp_some ⟨hσ_2, frσ_2, (by (try dsimp only) <;> (intro e9 q9; first | (injection q9; done) | (injection q9 with q8; omega)))⟩
theorem s_Q_circle {σ : SG} {i_0 : Int} {j_0 : Int} {k_0 : Int} {l_0 : Int} (hσ : II σ) (qi_0 : (-2147483648) ≤ i_0 ∧ i_0 ≤ 2147483647) (qj_0 : (-2147483648) ≤ j_0 ∧ j_0 ≤ 2147483647) (qk_0 : (-2147483648) ≤ k_0 ∧ k_0 ≤ 2147483647) (ql_0 : (-2147483648) ≤ l_0 ∧ l_0 ≤ 2147483647) : wp_ (fQ_circle σ i_0 j_0 k_0 l_0) (fun zz_ => II zz_.2 ∧ FC [65536, 65792, 66048, 66304, 66560, 66816, 67072, 67328, 67584, 67840, 68096, 68352, 68608, 68864, 69120, 69376, kI_sign, kI_used] [] σ zz_.2 ∧ (∀ e : Nat, zz_.1 = .inr e → e = 0)) := by
  unfold fQ_circle
  refine wp_if (fun c1 => ?_) (fun c1 => ?_)
  · try simp (disch := omega) only [w32_of, w64_of, w8_of, decide_eq_true_eq, decide_eq_false_iff_not, Bool.not_eq_true, fQ_isNoSignPoint] at c1
    exact wp_some ⟨hσ, (FC_refl _ _ _), (by (try dsimp only) <;> (intro e9 q9; first | (injection q9; done) | (injection q9 with q8; omega)))⟩
  · try simp (disch := omega) only [w32_of, w64_of, w8_of, decide_eq_true_eq, decide_eq_false_iff_not, Bool.not_eq_true, fQ_isNoSignPoint] at c1
    refine wp_bd (s_I_circleSign (σ := σ) (i_0 := i_0) (j_0 := j_0) (k_0 := k_0) (l_0 := l_0) hσ (by (try dsimp only) <;> first | assumption | omega | ((try simp (disch := omega) only [w32_of, w64_of, w8_of]) <;> first | assumption | omega | (split <;> omega) | (refine And.intro ?_ ?_ <;> split <;> omega)) | omega) (by (try dsimp only) <;> first | assumption | omega | ((try simp (disch := omega) only [w32_of, w64_of, w8_of]) <;> first | assumption | omega | (split <;> omega) | (refine And.intro ?_ ?_ <;> split <;> omega)) | omega) (by (try dsimp only) <;> first | assumption | omega | ((try simp (disch := omega) only [w32_of, w64_of, w8_of]) <;> first | assumption | omega | (split <;> omega) | (refine And.intro ?_ ?_ <;> split <;> omega)) | omega) (by (try dsimp only) <;> first | assumption | omega | ((try simp (disch := omega) only [w32_of, w64_of, w8_of]) <;> first | assumption | omega | (split <;> omega) | (refine And.intro ?_ ?_ <;> split <;> omega)) | omega)) ?_
    rintro ⟨x_3, σ_2⟩ - y2
    try dsimp only at y2 ⊢
    obtain ⟨hσ_2, flσ_2⟩ := y2
    have frσ_2 : FC [65536, 65792, 66048, 66304, 66560, 66816, 67072, 67328, 67584, 67840, 68096, 68352, 68608, 68864, 69120, 69376, kI_sign, kI_used] [] σ σ_2 := FC_le flσ_2 (by first | decide | (rcases hE with rfl | rfl | rfl <;> decide)) (by simp)
    exact wp_some ⟨hσ_2, frσ_2, (by (try dsimp only) <;> (intro e9 q9; first | (injection q9; done) | (injection q9 with q8; omega)))⟩
theorem v_pointQ {σ : SG} {i_0 : Int} {x_0 : Int} {y_0 : Int} (hσ : II σ) (qi_0 : (-2147483648) ≤ i_0 ∧ i_0 ≤ 2147483647) (qx_0 : (-9223372036854775808) ≤ x_0 ∧ x_0 ≤ 9223372036854775807) (qy_0 : (-9223372036854775808) ≤ y_0 ∧ y_0 ≤ 9223372036854775807) : wp_ (fQ_point σ i_0 x_0 y_0) (fun zz_ => II zz_.2 ∧ FC [kI_x, kI_y] [] σ zz_.2 ∧ (∀ e : Nat, zz_.1 = .inr e → e = 0 ∨ e = 2)) := by
  unfold fQ_point
  refine wp_if (fun c1 => ?_) (fun c1 => ?_)
  · try simp (disch := omega) only [w32_of, w64_of, w8_of, decide_eq_true_eq, decide_eq_false_iff_not, Bool.not_eq_true, fQ_isNoSignPoint] at c1
    exact wp_some ⟨hσ, (FC_refl _ _ _), (by (try dsimp only) <;> (intro e9 q9; first | (injection q9; done) | (injection q9 with q8; omega)))⟩
  · try simp (disch := omega) only [w32_of, w64_of, w8_of, decide_eq_true_eq, decide_eq_false_iff_not, Bool.not_eq_true, fQ_isNoSignPoint] at c1
    refine wp_if (fun c2 => ?_) (fun c2 => ?_)
    · try simp (disch := omega) only [w32_of, w64_of, w8_of, decide_eq_true_eq, decide_eq_false_iff_not, Bool.not_eq_true, fQ_isNoNumber] at c2
      exact wp_some ⟨hσ, (FC_refl _ _ _), (by (try dsimp only) <;> (intro e9 q9; first | (injection q9; done) | (injection q9 with q8; omega)))⟩
    · try simp (disch := omega) only [w32_of, w64_of, w8_of, decide_eq_true_eq, decide_eq_false_iff_not, Bool.not_eq_true, fQ_isNoNumber] at c2
      have c3 := w32_rng i_0
      refine wp_waI hσ b_kI_x (by (try dsimp only) <;> first | assumption | omega | ((try simp (disch := omega) only [w32_of, w64_of, w8_of]) <;> first | assumption | omega | (split <;> omega) | (refine And.intro ?_ ?_ <;> split <;> omega)) | omega) (by (try dsimp only) <;> first | assumption | omega | ((try simp (disch := omega) only [w32_of, w64_of, w8_of]) <;> first | assumption | omega | (split <;> omega) | (refine And.intro ?_ ?_ <;> split <;> omega)) | omega) (by (try dsimp only) <;> first | assumption | omega | ((try simp (disch := omega) only [w32_of, w64_of, w8_of]) <;> first | assumption | omega | (split <;> omega) | (refine And.intro ?_ ?_ <;> split <;> omega)) | omega) (fun σ_2 hσ_2 eσ_2 => ?_)
      try simp (disch := omega) only [w32_of, w64_of, w8_of] at eσ_2
      have flσ_2 := FC_sg eσ_2 (by first | decide | (rcases hE with rfl | rfl | rfl <;> decide))
      have frσ_2 : FC [kI_x, kI_y] [] σ σ_2 := FC_le flσ_2 (by first | decide | (rcases hE with rfl | rfl | rfl <;> decide)) (by simp)
      refine wp_waI hσ_2 b_kI_y (by (try dsimp only) <;> first | assumption | omega | ((try simp (disch := omega) only [w32_of, w64_of, w8_of]) <;> first | assumption | omega | (split <;> omega) | (refine And.intro ?_ ?_ <;> split <;> omega)) | omega) (by (try dsimp only) <;> first | assumption | omega | ((try simp (disch := omega) only [w32_of, w64_of, w8_of]) <;> first | assumption | omega | (split <;> omega) | (refine And.intro ?_ ?_ <;> split <;> omega)) | omega) (by (try dsimp only) <;> first | assumption | omega | ((try simp (disch := omega) only [w32_of, w64_of, w8_of]) <;> first | assumption | omega | (split <;> omega) | (refine And.intro ?_ ?_ <;> split <;> omega)) | omega) (fun σ_4 hσ_4 eσ_4 => ?_)
      try simp (disch := omega) only [w32_of, w64_of, w8_of] at eσ_4
      have flσ_4 := FC_sg eσ_4 (by first | decide | (rcases hE with rfl | rfl | rfl <;> decide))
      have frσ_4 : FC [kI_x, kI_y] [] σ σ_4 := FC_tr frσ_2 flσ_4 (by first | decide | (rcases hE with rfl | rfl | rfl <;> decide)) (by first | decide | (rcases hE with rfl | rfl | rfl <;> decide)) (by simp) (by simp)
      exact wp_some ⟨hσ_4, frσ_4, (by (try dsimp only) <;> (intro e9 q9; first | (injection q9; done) | (injection q9 with q8; omega)))⟩
