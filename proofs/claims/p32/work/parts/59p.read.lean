theorem v_failB {σ : SG} {code_0 : Int} (hσ : II σ) (qcode_0 : 1 ≤ code_0 ∧ code_0 ≤ 9) : wp_ (fB_fail σ code_0) (fun zz_ => II zz_.2 ∧ FC [kB_place, kB_wrong] [] σ zz_.2 ∧ (zz_.1 = false)) := by
  unfold fB_fail
  refine wp_wfI hσ b_kB_wrong (by (try dsimp only) <;> first | assumption | omega | ((try simp (disch := omega) only [w32_of, w64_of, w8_of]) <;> first | assumption | omega | (split <;> omega) | (refine And.intro ?_ ?_ <;> split <;> omega)) | omega) (fun σ_1 hσ_1 eσ_1 => ?_)
  try simp (disch := omega) only [w32_of, w64_of, w8_of] at eσ_1
  have flσ_1 := FC_sg eσ_1 (by first | decide | (rcases hE with rfl | rfl | rfl <;> decide))
  have frσ_1 : FC [kB_place, kB_wrong] [] σ σ_1 := FC_le flσ_1 (by first | decide | (rcases hE with rfl | rfl | rfl <;> decide)) (by simp)
  have c1 := ii_kB_at hσ_1 0
  have c2 := FC_at flσ_1 (c := kB_at) (by first | decide | (rcases hE with rfl | rfl | rfl <;> decide)) 0
  have c3 := ii_kB_at hσ 0
  refine wp_wfI hσ_1 b_kB_place (by (try dsimp only) <;> first | assumption | omega | ((try simp (disch := omega) only [w32_of, w64_of, w8_of]) <;> first | assumption | omega | (split <;> omega) | (refine And.intro ?_ ?_ <;> split <;> omega)) | omega) (fun σ_2 hσ_2 eσ_2 => ?_)
  try simp (disch := omega) only [w32_of, w64_of, w8_of] at eσ_2
  have flσ_2 := FC_sg eσ_2 (by first | decide | (rcases hE with rfl | rfl | rfl <;> decide))
  have frσ_2 : FC [kB_place, kB_wrong] [] σ σ_2 := FC_tr frσ_1 flσ_2 (by first | decide | (rcases hE with rfl | rfl | rfl <;> decide)) (by first | decide | (rcases hE with rfl | rfl | rfl <;> decide)) (by simp) (by simp)
  exact wp_some ⟨hσ_2, frσ_2, (by (try dsimp only) <;> first | assumption | omega | ((try simp (disch := omega) only [w32_of, w64_of, w8_of]) <;> first | assumption | omega | (split <;> omega) | (refine And.intro ?_ ?_ <;> split <;> omega)) | omega)⟩
theorem v_numberAt {σ : SG} {from_0 : Int} {bytes_0 : Int} (hσ : II σ) (qfrom_0 : 0 ≤ from_0 ∧ from_0 ≤ 65532) (qbytes_0 : 4 ≤ bytes_0 ∧ bytes_0 ≤ 8) : wp_ (fB_numberAt σ from_0 bytes_0) (fun zz_ => (-9223372036854775808 ≤ zz_ ∧ zz_ ≤ 9223372036854775807) ∧ ((bytes_0 = 4) → (0 ≤ zz_ ∧ zz_ ≤ 4294967295))) := by
  unfold fB_numberAt
  refine wp_bd (P := fun rr_ => (-9223372036854775808 ≤ rr_.1 ∧ rr_.1 ≤ 9223372036854775807) ∧ ((bytes_0 = 4) → (0 ≤ rr_.1 ∧ rr_.1 ≤ 4294967295))) ?_ ?_
  · refine wp_whl (fun ss_ => (0 ≤ ss_.2 ∧ ss_.2 ≤ 8) ∧ (-9223372036854775808 ≤ ss_.1 ∧ ss_.1 ≤ 9223372036854775807) ∧ ((bytes_0 = 4) → (0 ≤ ss_.1 ∧ (ss_.2 = 0 → ss_.1 ≤ 0) ∧ (ss_.2 = 1 → ss_.1 ≤ 255) ∧ (ss_.2 = 2 → ss_.1 ≤ 65535) ∧ (ss_.2 = 3 → ss_.1 ≤ 16777215) ∧ (ss_.2 = 4 → ss_.1 ≤ 4294967295) ∧ ss_.2 ≤ 4))) (fun ss_ => (9 - ss_.2).toNat) ⟨(by (try dsimp only) <;> first | assumption | omega | ((try simp (disch := omega) only [w32_of, w64_of, w8_of]) <;> first | assumption | omega | (split <;> omega) | (refine And.intro ?_ ?_ <;> split <;> omega)) | omega), (by (try dsimp only) <;> first | assumption | omega | ((try simp (disch := omega) only [w32_of, w64_of, w8_of]) <;> first | assumption | omega | (split <;> omega) | (refine And.intro ?_ ?_ <;> split <;> omega)) | omega), (by (try dsimp only) <;> first | assumption | omega | ((try simp (disch := omega) only [w32_of, w64_of, w8_of]) <;> first | assumption | omega | (split <;> omega) | (refine And.intro ?_ ?_ <;> split <;> omega)) | omega)⟩ ?_
    rintro ⟨value_1, i_2⟩ y4
    try dsimp only at y4 ⊢
    obtain ⟨g1, g2, g3⟩ := y4
    have c6 := w32_rng i_2
    have c7 := w32_rng bytes_0
    refine wp_if (fun c5 => ?_) (fun c5 => ?_)
    · try simp (disch := omega) only [w32_of, w64_of, w8_of, decide_eq_true_eq, decide_eq_false_iff_not, Bool.not_eq_true] at c5
      have c8 := ii_kB_lowFirst hσ 0
      refine wp_lt (fun x_12 e_x_12 => ?_)
      try simp (disch := omega) only [w32_of, w64_of, w8_of] at e_x_12
      refine wp_bd (P := fun rr_ => (0 ≤ rr_ ∧ rr_ ≤ 255) ∧ (0 ≤ rr_ ∧ rr_ ≤ 255)) ?_ ?_
      · have c10 := w32_rng x_12
        have c11 := ii_kB_length hσ 0
        have c12 := w32_rng (σ kB_length 0)
        refine wp_if (fun c9 => ?_) (fun c9 => ?_)
        · try simp (disch := omega) only [w32_of, w64_of, w8_of, decide_eq_true_eq, decide_eq_false_iff_not, Bool.not_eq_true] at c9
          refine wp_rdI (by (try dsimp only) <;> first | assumption | omega | ((try simp (disch := omega) only [w32_of, w64_of, w8_of]) <;> first | assumption | omega | (split <;> omega) | (refine And.intro ?_ ?_ <;> split <;> omega)) | omega) (by (try dsimp only) <;> first | assumption | omega | ((try simp (disch := omega) only [w32_of, w64_of, w8_of]) <;> first | assumption | omega | (split <;> omega) | (refine And.intro ?_ ?_ <;> split <;> omega)) | omega) (fun x_15 e_x_15 => ?_)
          have b_x_15 : (-128) ≤ x_15 ∧ x_15 ≤ 127 := by rw [e_x_15]; exact ii_kQ_tape hσ _
          try simp (disch := omega) only [w32_of, w64_of, w8_of] at e_x_15
          have c13 := ii_kQ_tape hσ x_12
          have c14 := w8_rng x_15
          have c15 := q_ian_bd (w8 x_15) (m := 255) (by decide) (by decide)
          try simp (disch := omega) only [w32_of, w64_of, w8_of] at c15
          exact wp_some ⟨(by (try dsimp only) <;> first | assumption | omega | ((try simp (disch := omega) only [w32_of, w64_of, w8_of]) <;> first | assumption | omega | (split <;> omega) | (refine And.intro ?_ ?_ <;> split <;> omega)) | omega), (by (try dsimp only) <;> first | assumption | omega | ((try simp (disch := omega) only [w32_of, w64_of, w8_of]) <;> first | assumption | omega | (split <;> omega) | (refine And.intro ?_ ?_ <;> split <;> omega)) | omega)⟩
        · try simp (disch := omega) only [w32_of, w64_of, w8_of, decide_eq_true_eq, decide_eq_false_iff_not, Bool.not_eq_true] at c9
          exact wp_some ⟨(by (try dsimp only) <;> first | assumption | omega | ((try simp (disch := omega) only [w32_of, w64_of, w8_of]) <;> first | assumption | omega | (split <;> omega) | (refine And.intro ?_ ?_ <;> split <;> omega)) | omega), (by (try dsimp only) <;> first | assumption | omega | ((try simp (disch := omega) only [w32_of, w64_of, w8_of]) <;> first | assumption | omega | (split <;> omega) | (refine And.intro ?_ ?_ <;> split <;> omega)) | omega)⟩
      rintro x_26 _ ⟨g16, g17⟩
      have hrr := q_lor_rng (q_lsl value_1 8) (w32 x_26)
      have hlo : bytes_0 = 4 → q_lor (q_lsl value_1 8) (w32 x_26) = value_1 * 256 + x_26 := fun z => by rw [w32_of (by omega) (by omega)]; exact lor_b (by omega) (by omega) (by omega) (by omega)
      exact wp_some (x_inl ⟨⟨(by (try dsimp only) <;> first | assumption | omega | ((try simp (disch := omega) only [w32_of, w64_of, w8_of]) <;> first | assumption | omega | (split <;> omega) | (refine And.intro ?_ ?_ <;> split <;> omega)) | omega), (by (try dsimp only) <;> first | assumption | omega | ((try simp (disch := omega) only [w32_of, w64_of, w8_of]) <;> first | assumption | omega | (split <;> omega) | (refine And.intro ?_ ?_ <;> split <;> omega)) | omega), (by (try dsimp only) <;> first | assumption | omega | ((try simp (disch := omega) only [w32_of, w64_of, w8_of]) <;> first | assumption | omega | (split <;> omega) | (refine And.intro ?_ ?_ <;> split <;> omega)) | omega)⟩, (by (try dsimp only) <;> first | assumption | omega | ((try simp (disch := omega) only [w32_of, w64_of, w8_of]) <;> first | assumption | omega | (split <;> omega) | (refine And.intro ?_ ?_ <;> split <;> omega)) | omega)⟩)
    · try simp (disch := omega) only [w32_of, w64_of, w8_of, decide_eq_true_eq, decide_eq_false_iff_not, Bool.not_eq_true] at c5
      exact wp_some (x_inr ⟨(by (try dsimp only) <;> first | assumption | omega | ((try simp (disch := omega) only [w32_of, w64_of, w8_of]) <;> first | assumption | omega | (split <;> omega) | (refine And.intro ?_ ?_ <;> split <;> omega)) | omega), (by (try dsimp only) <;> first | assumption | omega | ((try simp (disch := omega) only [w32_of, w64_of, w8_of]) <;> first | assumption | omega | (split <;> omega) | (refine And.intro ?_ ?_ <;> split <;> omega)) | omega)⟩)
  rintro ⟨value_34, i_35⟩ _ y20
  try dsimp only at y20 ⊢
  obtain ⟨g18, g19⟩ := y20
  exact wp_some ⟨(by (try dsimp only) <;> first | assumption | omega | ((try simp (disch := omega) only [w32_of, w64_of, w8_of]) <;> first | assumption | omega | (split <;> omega) | (refine And.intro ?_ ?_ <;> split <;> omega)) | omega), (by (try dsimp only) <;> first | assumption | omega | ((try simp (disch := omega) only [w32_of, w64_of, w8_of]) <;> first | assumption | omega | (split <;> omega) | (refine And.intro ?_ ?_ <;> split <;> omega)) | omega)⟩
theorem v_roundedFrom {σ : SG} {power_0 : Int} {fraction_0 : Int} (hσ : II σ) (qpower_0 : 0 ≤ power_0 ∧ power_0 ≤ 2046) (qfraction_0 : 0 ≤ fraction_0 ∧ fraction_0 ≤ 4503599627370495) : wp_ (fB_roundedFrom σ power_0 fraction_0) (fun zz_ => (0 ≤ zz_ ∧ zz_ ≤ 9223372036854775807)) := by
  unfold fB_roundedFrom
  have hdg := ii_kB_digits hσ 0
  have hun := uNit_b (x := w32 (σ kB_digits 0)) (by rw [w32_of (by omega) (by omega)]; omega)
  have hun2 := uNit_b (x := σ kB_digits 0) (by omega)
  have c1 := w32_rng power_0
  refine wp_lt (fun x_2 e_x_2 => ?_)
  try simp (disch := omega) only [w32_of, w64_of, w8_of] at e_x_2
  have c2 := ii_kB_digits hσ 0
  have c3 := w32_rng (σ kB_digits 0)
  refine wp_ck (by (try dsimp only) <;> first | assumption | omega | ((try simp (disch := omega) only [w32_of, w64_of, w8_of]) <;> first | assumption | omega | (split <;> omega) | (refine And.intro ?_ ?_ <;> split <;> omega)) | omega) ?_
  have c5 := q_mxi_bd power_0 1
  try simp (disch := omega) only [w32_of, w64_of, w8_of] at c5
  have c6 := w32_rng (1075 - (q_mxi power_0 1))
  refine wp_if (fun c4 => ?_) (fun c4 => ?_)
  · try simp (disch := omega) only [w32_of, w64_of, w8_of, decide_eq_true_eq, decide_eq_false_iff_not, Bool.not_eq_true] at c4
    exact wp_some (by (try dsimp only) <;> first | assumption | omega | ((try simp (disch := omega) only [w32_of, w64_of, w8_of]) <;> first | assumption | omega | (split <;> omega) | (refine And.intro ?_ ?_ <;> split <;> omega)) | omega)
  · try simp (disch := omega) only [w32_of, w64_of, w8_of, decide_eq_true_eq, decide_eq_false_iff_not, Bool.not_eq_true] at c4
    refine wp_if (fun c7 => ?_) (fun c7 => ?_)
    · try simp (disch := omega) only [w32_of, w64_of, w8_of, decide_eq_true_eq, decide_eq_false_iff_not, Bool.not_eq_true] at c7
      exact wp_some (by (try dsimp only) <;> first | assumption | omega | ((try simp (disch := omega) only [w32_of, w64_of, w8_of]) <;> first | assumption | omega | (split <;> omega) | (refine And.intro ?_ ?_ <;> split <;> omega)) | omega)
    · try simp (disch := omega) only [w32_of, w64_of, w8_of, decide_eq_true_eq, decide_eq_false_iff_not, Bool.not_eq_true] at c7
      have h2 : 0 ≤ x_2 ∧ x_2 ≤ 9007199254740991 := by rw [e_x_2]; split <;> omega
      have hm6 : 0 ≤ x_2 * uNit (σ kB_digits 0) ∧ x_2 * uNit (σ kB_digits 0) ≤ 9007199254740991000 := ⟨Int.mul_nonneg (by omega) (by omega), by have := Int.mul_le_mul h2.2 hun2.2 (by omega) (by omega); omega⟩
      have hl6 := lus_b (x := x_2 * uNit (σ kB_digits 0)) (k := 1075 - q_mxi power_0 1) hm6.1 (by omega) (by omega) (by omega)
      have c8 := w32_rng (uNit (w32 (σ kB_digits 0)))
      have c9 := q_lus_rng (x_2 * (w32 (uNit (w32 (σ kB_digits 0))))) (1075 - (q_mxi power_0 1))
      refine wp_lt (fun x_6 e_x_6 => ?_)
      try simp (disch := omega) only [w32_of, w64_of, w8_of] at e_x_6
      have hx6 : 0 ≤ x_6 ∧ x_6 ≤ 4611686018427387904 := by rw [e_x_6]; exact hl6
      have c10 := q_lsl_rng x_6 (1075 - (q_mxi power_0 1))
      refine wp_lt (fun x_7 e_x_7 => ?_)
      try simp (disch := omega) only [w32_of, w64_of, w8_of] at e_x_7
      have c11 := q_lsl_rng 1 ((1075 - (q_mxi power_0 1)) - 1)
      have c12 := w64_rng (q_lsl 1 ((1075 - (q_mxi power_0 1)) - 1))
      have c13 := w64_rng x_7
      have c14 := q_lan_bd x_6 (m := 1) (by decide) (by decide)
      try simp (disch := omega) only [w32_of, w64_of, w8_of] at c14
      have c15 := w64_rng (q_lan x_6 1)
      refine wp_lt (fun x_9 e_x_9 => ?_)
      try simp (disch := omega) only [w32_of, w64_of, w8_of] at e_x_9
      exact wp_some (by (try dsimp only) <;> first | assumption | omega | ((try simp (disch := omega) only [w32_of, w64_of, w8_of]) <;> first | assumption | omega | (split <;> omega) | (refine And.intro ?_ ?_ <;> split <;> omega)) | omega)
theorem s_B_readNumber {σ : SG} (hσ : II σ) : wp_ (fB_readNumber σ) (fun zz_ => II zz_.2 ∧ FC [kB_at, kB_number, kB_place, kB_wrong] [] σ zz_.2 ∧ ((zz_.1 = true) → (-1000000000 ≤ zz_.2 kB_number 0 ∧ zz_.2 kB_number 0 ≤ 1000000000))) := by
  unfold fB_readNumber
  have c2 := ii_kB_length hσ 0
  have c3 := ii_kB_at hσ 0
  refine wp_if (fun c1 => ?_) (fun c1 => ?_)
  · try simp (disch := omega) only [w32_of, w64_of, w8_of, decide_eq_true_eq, decide_eq_false_iff_not, Bool.not_eq_true, fB_has] at c1
    refine wp_bd (v_numberAt (σ := σ) (from_0 := (σ kB_at 0)) (bytes_0 := 8) hσ (by (try dsimp only) <;> first | assumption | omega | ((try simp (disch := omega) only [w32_of, w64_of, w8_of]) <;> first | assumption | omega | (split <;> omega) | (refine And.intro ?_ ?_ <;> split <;> omega)) | omega) (by (try dsimp only) <;> first | assumption | omega | ((try simp (disch := omega) only [w32_of, w64_of, w8_of]) <;> first | assumption | omega | (split <;> omega) | (refine And.intro ?_ ?_ <;> split <;> omega)) | omega)) ?_
    rintro x_3 - ⟨g4, g5⟩
    try simp (disch := omega) only [w32_of, w64_of, w8_of] at g4
    try simp (disch := omega) only [w32_of, w64_of, w8_of] at g5
    have c7 := q_lus_rng x_3 52
    have c8 := q_ian_bd (q_lus x_3 52) (m := 2047) (by decide) (by decide)
    try simp (disch := omega) only [w32_of, w64_of, w8_of] at c8
    have c9 := w32_rng (q_ian (q_lus x_3 52) 2047)
    refine wp_if (fun c6 => ?_) (fun c6 => ?_)
    · try simp (disch := omega) only [w32_of, w64_of, w8_of, decide_eq_true_eq, decide_eq_false_iff_not, Bool.not_eq_true] at c6
      refine wp_bd (v_failB (σ := σ) (code_0 := 4) hσ (by (try dsimp only) <;> first | assumption | omega | ((try simp (disch := omega) only [w32_of, w64_of, w8_of]) <;> first | assumption | omega | (split <;> omega) | (refine And.intro ?_ ?_ <;> split <;> omega)) | omega)) ?_
      rintro ⟨x_7, σ_6⟩ - y10
      try dsimp only at y10 ⊢
      obtain ⟨hσ_6, flσ_6, hfl⟩ := y10
      have frσ_6 : FC [kB_at, kB_number, kB_place, kB_wrong] [] σ σ_6 := FC_le flσ_6 (by first | decide | (rcases hE with rfl | rfl | rfl <;> decide)) (by simp)
      try simp (disch := omega) only [w32_of, w64_of, w8_of] at hfl
      have c11 := ii_kB_number hσ_6 0
      have c12 := FC_at flσ_6 (c := kB_number) (by first | decide | (rcases hE with rfl | rfl | rfl <;> decide)) 0
      have c13 := ii_kB_number hσ 0
      exact wp_some ⟨hσ_6, frσ_6, (fun q => absurd (q.symm.trans hfl) (by decide))⟩
    · try simp (disch := omega) only [w32_of, w64_of, w8_of, decide_eq_true_eq, decide_eq_false_iff_not, Bool.not_eq_true] at c6
      have hpw := q_ian_bd (q_lus x_3 52) (m := 2047) (by decide) (by decide)
      have hfr : q_lan x_3 4503599627370495 = x_3 % 4503599627370496 := lan_p x_3 (k := 52) (by decide) (by decide)
      have c14 := q_lan_bd x_3 (m := 4503599627370495) (by decide) (by decide)
      try simp (disch := omega) only [w32_of, w64_of, w8_of] at c14
      refine wp_bd (v_roundedFrom (σ := σ) (power_0 := (q_ian (q_lus x_3 52) 2047)) (fraction_0 := (q_lan x_3 4503599627370495)) hσ (by (try dsimp only) <;> first | assumption | omega | ((try simp (disch := omega) only [w32_of, w64_of, w8_of]) <;> first | assumption | omega | (split <;> omega) | (refine And.intro ?_ ?_ <;> split <;> omega)) | omega) (by (try dsimp only) <;> first | assumption | omega | ((try simp (disch := omega) only [w32_of, w64_of, w8_of]) <;> first | assumption | omega | (split <;> omega) | (refine And.intro ?_ ?_ <;> split <;> omega)) | omega)) ?_
      rintro x_9 - g15
      try simp (disch := omega) only [w32_of, w64_of, w8_of] at g15
      have c17 := w64_rng x_9
      refine wp_if (fun c16 => ?_) (fun c16 => ?_)
      · try simp (disch := omega) only [w32_of, w64_of, w8_of, decide_eq_true_eq, decide_eq_false_iff_not, Bool.not_eq_true] at c16
        refine wp_bd (v_failB (σ := σ) (code_0 := 5) hσ (by (try dsimp only) <;> first | assumption | omega | ((try simp (disch := omega) only [w32_of, w64_of, w8_of]) <;> first | assumption | omega | (split <;> omega) | (refine And.intro ?_ ?_ <;> split <;> omega)) | omega)) ?_
        rintro ⟨x_13, σ_12⟩ - y18
        try dsimp only at y18 ⊢
        obtain ⟨hσ_12, flσ_12, hfl⟩ := y18
        have frσ_12 : FC [kB_at, kB_number, kB_place, kB_wrong] [] σ σ_12 := FC_le flσ_12 (by first | decide | (rcases hE with rfl | rfl | rfl <;> decide)) (by simp)
        try simp (disch := omega) only [w32_of, w64_of, w8_of] at hfl
        have c19 := ii_kB_number hσ_12 0
        have c20 := FC_at flσ_12 (c := kB_number) (by first | decide | (rcases hE with rfl | rfl | rfl <;> decide)) 0
        have c21 := ii_kB_number hσ 0
        exact wp_some ⟨hσ_12, frσ_12, (fun q => absurd (q.symm.trans hfl) (by decide))⟩
      · try simp (disch := omega) only [w32_of, w64_of, w8_of, decide_eq_true_eq, decide_eq_false_iff_not, Bool.not_eq_true] at c16
        have c22 := w64_rng x_3
        refine wp_wfI hσ b_kB_number (by (try dsimp only) <;> first | assumption | omega | ((try simp (disch := omega) only [w32_of, w64_of, w8_of]) <;> first | assumption | omega | (split <;> omega) | (refine And.intro ?_ ?_ <;> split <;> omega)) | omega) (fun σ_15 hσ_15 eσ_15 => ?_)
        try simp (disch := omega) only [w32_of, w64_of, w8_of] at eσ_15
        have flσ_15 := FC_sg eσ_15 (by first | decide | (rcases hE with rfl | rfl | rfl <;> decide))
        have frσ_15 : FC [kB_at, kB_number, kB_place, kB_wrong] [] σ σ_15 := FC_le flσ_15 (by first | decide | (rcases hE with rfl | rfl | rfl <;> decide)) (by simp)
        have c23 := ii_kB_at hσ_15 0
        have c24 := FC_at flσ_15 (c := kB_at) (by first | decide | (rcases hE with rfl | rfl | rfl <;> decide)) 0
        refine wp_wfI hσ_15 b_kB_at (by (try dsimp only) <;> first | assumption | omega | ((try simp (disch := omega) only [w32_of, w64_of, w8_of]) <;> first | assumption | omega | (split <;> omega) | (refine And.intro ?_ ?_ <;> split <;> omega)) | omega) (fun σ_16 hσ_16 eσ_16 => ?_)
        try simp (disch := omega) only [w32_of, w64_of, w8_of] at eσ_16
        have flσ_16 := FC_sg eσ_16 (by first | decide | (rcases hE with rfl | rfl | rfl <;> decide))
        have frσ_16 : FC [kB_at, kB_number, kB_place, kB_wrong] [] σ σ_16 := FC_tr frσ_15 flσ_16 (by first | decide | (rcases hE with rfl | rfl | rfl <;> decide)) (by first | decide | (rcases hE with rfl | rfl | rfl <;> decide)) (by simp) (by simp)
        have c25 := ii_kB_number hσ_16 0
        have c26 := FC_at flσ_16 (c := kB_number) (by first | decide | (rcases hE with rfl | rfl | rfl <;> decide)) 0
        have c27 := ii_kB_number hσ_15 0
        have c28 := sg_val eσ_15
        exact wp_some ⟨hσ_16, frσ_16, (by (try dsimp only) <;> (intro q9; first | (rw [hfl] at q9; exact absurd q9 (by decide)) | omega | (rw [eσ_16, sg_nc (by decide), eσ_15, sg_at]; split <;> omega)))⟩
  · try simp (disch := omega) only [w32_of, w64_of, w8_of, decide_eq_true_eq, decide_eq_false_iff_not, Bool.not_eq_true, fB_has] at c1
    refine wp_bd (v_failB (σ := σ) (code_0 := 3) hσ (by (try dsimp only) <;> first | assumption | omega | ((try simp (disch := omega) only [w32_of, w64_of, w8_of]) <;> first | assumption | omega | (split <;> omega) | (refine And.intro ?_ ?_ <;> split <;> omega)) | omega)) ?_
    rintro ⟨x_20, σ_19⟩ - y29
    try dsimp only at y29 ⊢
    obtain ⟨hσ_19, flσ_19, hfl⟩ := y29
    have frσ_19 : FC [kB_at, kB_number, kB_place, kB_wrong] [] σ σ_19 := FC_le flσ_19 (by first | decide | (rcases hE with rfl | rfl | rfl <;> decide)) (by simp)
    try simp (disch := omega) only [w32_of, w64_of, w8_of] at hfl
    have c30 := ii_kB_number hσ_19 0
    have c31 := FC_at flσ_19 (c := kB_number) (by first | decide | (rcases hE with rfl | rfl | rfl <;> decide)) 0
    have c32 := ii_kB_number hσ 0
    exact wp_some ⟨hσ_19, frσ_19, (fun q => absurd (q.symm.trans hfl) (by decide))⟩
theorem s_B_readCoordinates {σ : SG} {points_0 : Int} {s_9 : Nat} (hσ : II σ) (hs_s_9 : isS s_9) (hkσ : (σ kB_shape 0).toNat = s_9) (w0 : 0 ≤ points_0 ∧ points_0 ≤ 4294967295) : wp_ (fB_readCoordinates σ points_0) (fun zz_ => II zz_.2 ∧ FC [kB_at, kB_number, kB_place, kB_wrong] [s_9] σ zz_.2 ∧ ((zz_.1 = true) → (zz_.2 (kA_points s_9) 0 = σ (kA_points s_9) 0 + points_0)) ∧ ((zz_.1 = true) → (zz_.2 (kA_plans s_9) = σ (kA_plans s_9) ∧ zz_.2 (kA_plan s_9) = σ (kA_plan s_9)))) := by
  unfold fB_readCoordinates
  have hpt := iiA_points hσ hs_s_9 0
  try rw [hkσ]
  refine wp_bx (P := fun rr_ => II rr_.2 ∧ FC [kB_at, kB_number, kB_place, kB_wrong] [s_9] σ rr_.2 ∧ (rr_.2 (kA_points s_9) 0 = σ (kA_points s_9) 0 + points_0) ∧ (rr_.2 (kA_plans s_9) = σ (kA_plans s_9) ∧ rr_.2 (kA_plan s_9) = σ (kA_plan s_9))) ?_ ?_
  · have c1 := iiA_points (s := s_9) hσ (by first | assumption | decide | omega) 0
    refine wp_whl (fun ss_ => II ss_.2 ∧ FC [kB_at, kB_number, kB_place, kB_wrong] [s_9] σ ss_.2 ∧ (0 ≤ ss_.1 ∧ ss_.1 ≤ points_0) ∧ (ss_.2 (kA_points s_9) 0 = σ (kA_points s_9) 0 + ss_.1) ∧ (ss_.2 (kA_plans s_9) = σ (kA_plans s_9) ∧ ss_.2 (kA_plan s_9) = σ (kA_plan s_9))) (fun ss_ => (2049 - ss_.1).toNat) ⟨hσ, (FC_refl _ _ _), (by (try dsimp only) <;> first | assumption | omega | ((try simp (disch := omega) only [w32_of, w64_of, w8_of]) <;> first | assumption | omega | (split <;> omega) | (refine And.intro ?_ ?_ <;> split <;> omega)) | omega), (by (try dsimp only) <;> first | assumption | omega | ((try simp (disch := omega) only [w32_of, w64_of, w8_of]) <;> first | assumption | omega | (split <;> omega) | (refine And.intro ?_ ?_ <;> split <;> omega)) | omega), (by (try dsimp only) <;> (first | exact ⟨rfl, rfl⟩ | exact ⟨hp4.trans ((FC_plans flσ_30 hs_s_9 (NS_0 _)).trans ((FC_plans flσ_14 hs_s_9 (NS_0 _)).trans hpp.1)), hp5.trans ((FC_plan flσ_30 hs_s_9 (NS_0 _)).trans ((FC_plan flσ_14 hs_s_9 (NS_0 _)).trans hpp.2))⟩))⟩ ?_
    rintro ⟨i_1, σ_2⟩ y4
    try dsimp only at y4 ⊢
    obtain ⟨hσ_2, frσ_2, g2, g3, hpp⟩ := y4
    have hkσ_2 : (σ_2 kB_shape 0).toNat = s_9 := by rw [FC_at frσ_2 (c := kB_shape) (by decide)]; exact hkσ
    try rw [hkσ_2]
    have c6 := w64_rng i_1
    have c7 := w64_rng points_0
    refine wp_if (fun c5 => ?_) (fun c5 => ?_)
    · try simp (disch := omega) only [w32_of, w64_of, w8_of, decide_eq_true_eq, decide_eq_false_iff_not, Bool.not_eq_true] at c5
      refine wp_ck (by first | assumption | decide | omega) ?_
      refine wp_if (fun c8 => ?_) (fun c8 => ?_)
      · try simp (disch := omega) only [w32_of, w64_of, w8_of, decide_eq_true_eq, decide_eq_false_iff_not, Bool.not_eq_true, fA_hasRoomForPoint] at c8
        refine wp_bd (s_B_readNumber (σ := σ_2) hσ_2) ?_
        rintro ⟨x_15, σ_14⟩ - y9
        try dsimp only at y9 ⊢
        obtain ⟨hσ_14, flσ_14, hrn⟩ := y9
        have frσ_14 : FC [kB_at, kB_number, kB_place, kB_wrong] [s_9] σ σ_14 := FC_tr frσ_2 flσ_14 (by first | decide | (rcases hE with rfl | rfl | rfl <;> decide)) (by first | decide | (rcases hE with rfl | rfl | rfl <;> decide)) (by simp) (by simp)
        have hkσ_14 : (σ_14 kB_shape 0).toNat = s_9 := by rw [FC_at frσ_14 (c := kB_shape) (by decide)]; exact hkσ
        try rw [hkσ_14]
        have c10 := ii_kB_number hσ_14 0
        try simp (disch := omega) only [w32_of, w64_of, w8_of] at hrn
        refine wp_if (fun c11 => ?_) (fun c11 => ?_)
        · have k12 := hrn c11
          try simp (disch := omega) only [w32_of, w64_of, w8_of] at k12
          try simp (disch := omega) only [w32_of, w64_of, w8_of, decide_eq_true_eq, decide_eq_false_iff_not, Bool.not_eq_true] at c11
          refine wp_bd (s_B_readNumber (σ := σ_14) hσ_14) ?_
          rintro ⟨x_31, σ_30⟩ - y13
          try dsimp only at y13 ⊢
          obtain ⟨hσ_30, flσ_30, hrn⟩ := y13
          have frσ_30 : FC [kB_at, kB_number, kB_place, kB_wrong] [s_9] σ σ_30 := FC_tr frσ_14 flσ_30 (by first | decide | (rcases hE with rfl | rfl | rfl <;> decide)) (by first | decide | (rcases hE with rfl | rfl | rfl <;> decide)) (by simp) (by simp)
          have hkσ_30 : (σ_30 kB_shape 0).toNat = s_9 := by rw [FC_at frσ_30 (c := kB_shape) (by decide)]; exact hkσ
          try rw [hkσ_30]
          have c14 := ii_kB_number hσ_30 0
          try simp (disch := omega) only [w32_of, w64_of, w8_of] at hrn
          refine wp_if (fun c15 => ?_) (fun c15 => ?_)
          · have k16 := hrn c15
            try simp (disch := omega) only [w32_of, w64_of, w8_of] at k16
            try simp (disch := omega) only [w32_of, w64_of, w8_of, decide_eq_true_eq, decide_eq_false_iff_not, Bool.not_eq_true] at c15
            refine wp_ck (by first | assumption | decide | omega) ?_
            refine wp_bd (v_addPoint (σ := σ_30) (this_0 := s_9) (px_0 := (σ_14 kB_number 0)) (py_0 := (σ_30 kB_number 0)) hσ_30 (by first | assumption | decide | omega) (by (try dsimp only) <;> first | assumption | omega | ((try simp (disch := omega) only [w32_of, w64_of, w8_of]) <;> first | assumption | omega | (split <;> omega) | (refine And.intro ?_ ?_ <;> split <;> omega)) | omega) (by (try dsimp only) <;> first | assumption | omega | ((try simp (disch := omega) only [w32_of, w64_of, w8_of]) <;> first | assumption | omega | (split <;> omega) | (refine And.intro ?_ ?_ <;> split <;> omega)) | omega)) ?_
            rintro ⟨x_36, σ_35⟩ - y17
            try dsimp only at y17 ⊢
            obtain ⟨hσ_35, flσ_35, hp1, hp2, hp3, hp4, hp5⟩ := y17
            have frσ_35 : FC [kB_at, kB_number, kB_place, kB_wrong] [s_9] σ σ_35 := FC_tr frσ_30 flσ_35 (by first | decide | (rcases hE with rfl | rfl | rfl <;> decide)) (by first | decide | (rcases hE with rfl | rfl | rfl <;> decide)) (by simp) (by simp)
            have hkσ_35 : (σ_35 kB_shape 0).toNat = s_9 := by rw [FC_at frσ_35 (c := kB_shape) (by decide)]; exact hkσ
            try rw [hkσ_35]
            have c18 := iiA_points (s := s_9) hσ_30 (by first | assumption | decide | omega) 0
            have c19 := congrFun (FC_points (t := s_9) flσ_30 (by first | assumption | decide | omega) (NS_0 _)) 0
            have c20 := iiA_points (s := s_9) hσ_14 (by first | assumption | decide | omega) 0
            have c21 := congrFun (FC_points (t := s_9) flσ_14 (by first | assumption | decide | omega) (NS_0 _)) 0
            have c22 := iiA_points (s := s_9) hσ_2 (by first | assumption | decide | omega) 0
            try simp (disch := omega) only [w32_of, w64_of, w8_of] at hp1
            try simp (disch := omega) only [w32_of, w64_of, w8_of] at hp2
            have c23 := iiA_points (s := s_9) hσ_35 (by first | assumption | decide | omega) 0
            have c24 := iiA_x (s := s_9) hσ_35 (by first | assumption | decide | omega) (σ_30 (kA_points s_9) 0)
            have c25 := iiA_y (s := s_9) hσ_35 (by first | assumption | decide | omega) (σ_30 (kA_points s_9) 0)
            try simp (disch := omega) only [w32_of, w64_of, w8_of] at hp3
            try simp (disch := omega) only [w32_of, w64_of, w8_of] at hp4
            try simp (disch := omega) only [w32_of, w64_of, w8_of] at hp5
            refine wp_if (fun c26 => ?_) (fun c26 => ?_)
            · have k27 := hp1.mp c26
              try simp (disch := omega) only [w32_of, w64_of, w8_of] at k27
              have k29 := hp3 c26
              try simp (disch := omega) only [w32_of, w64_of, w8_of] at k29
              try simp (disch := omega) only [w32_of, w64_of, w8_of, decide_eq_true_eq, decide_eq_false_iff_not, Bool.not_eq_true] at c26
              exact wp_some (x_inl ⟨⟨hσ_35, frσ_35, (by (try dsimp only) <;> first | assumption | omega | ((try simp (disch := omega) only [w32_of, w64_of, w8_of]) <;> first | assumption | omega | (split <;> omega) | (refine And.intro ?_ ?_ <;> split <;> omega)) | omega), (by (try dsimp only) <;> first | assumption | omega | ((try simp (disch := omega) only [w32_of, w64_of, w8_of]) <;> first | assumption | omega | (split <;> omega) | (refine And.intro ?_ ?_ <;> split <;> omega)) | omega), (by (try dsimp only) <;> (first | exact ⟨rfl, rfl⟩ | exact ⟨hp4.trans ((FC_plans flσ_30 hs_s_9 (NS_0 _)).trans ((FC_plans flσ_14 hs_s_9 (NS_0 _)).trans hpp.1)), hp5.trans ((FC_plan flσ_30 hs_s_9 (NS_0 _)).trans ((FC_plan flσ_14 hs_s_9 (NS_0 _)).trans hpp.2))⟩))⟩, (by (try dsimp only) <;> first | assumption | omega | ((try simp (disch := omega) only [w32_of, w64_of, w8_of]) <;> first | assumption | omega | (split <;> omega) | (refine And.intro ?_ ?_ <;> split <;> omega)) | omega)⟩)
            · have k30 := fun q => c26 (hp1.mpr q)
              try simp (disch := omega) only [w32_of, w64_of, w8_of] at k30
              have k31 := hp2 (Bool.eq_false_iff.mpr c26)
              try simp (disch := omega) only [w32_of, w64_of, w8_of] at k31
              try simp (disch := omega) only [w32_of, w64_of, w8_of, decide_eq_true_eq, decide_eq_false_iff_not, Bool.not_eq_true] at c26
              exact wp_some (x_inr (x_inr ⟨hσ_35, frσ_35, (fun q => (by cases q)), (fun q => (by cases q))⟩))
          · try simp (disch := omega) only [w32_of, w64_of, w8_of, decide_eq_true_eq, decide_eq_false_iff_not, Bool.not_eq_true] at c15
            have c34 := iiA_points (s := s_9) hσ_30 (by first | assumption | decide | omega) 0
            have c35 := congrFun (FC_points (t := s_9) flσ_30 (by first | assumption | decide | omega) (NS_0 _)) 0
            have c36 := iiA_points (s := s_9) hσ_14 (by first | assumption | decide | omega) 0
            have c37 := congrFun (FC_points (t := s_9) flσ_14 (by first | assumption | decide | omega) (NS_0 _)) 0
            have c38 := iiA_points (s := s_9) hσ_2 (by first | assumption | decide | omega) 0
            exact wp_some (x_inr (x_inr ⟨hσ_30, frσ_30, (fun q => (by cases q)), (fun q => (by cases q))⟩))
        · try simp (disch := omega) only [w32_of, w64_of, w8_of, decide_eq_true_eq, decide_eq_false_iff_not, Bool.not_eq_true] at c11
          have c40 := iiA_points (s := s_9) hσ_14 (by first | assumption | decide | omega) 0
          have c41 := congrFun (FC_points (t := s_9) flσ_14 (by first | assumption | decide | omega) (NS_0 _)) 0
          have c42 := iiA_points (s := s_9) hσ_2 (by first | assumption | decide | omega) 0
          exact wp_some (x_inr (x_inr ⟨hσ_14, frσ_14, (fun q => (by cases q)), (fun q => (by cases q))⟩))
      · try simp (disch := omega) only [w32_of, w64_of, w8_of, decide_eq_true_eq, decide_eq_false_iff_not, Bool.not_eq_true, fA_hasRoomForPoint] at c8
        refine wp_bd (v_failB (σ := σ_2) (code_0 := 7) hσ_2 (by (try dsimp only) <;> first | assumption | omega | ((try simp (disch := omega) only [w32_of, w64_of, w8_of]) <;> first | assumption | omega | (split <;> omega) | (refine And.intro ?_ ?_ <;> split <;> omega)) | omega)) ?_
        rintro ⟨x_41, σ_40⟩ - y43
        try dsimp only at y43 ⊢
        obtain ⟨hσ_40, flσ_40, hfl⟩ := y43
        have frσ_40 : FC [kB_at, kB_number, kB_place, kB_wrong] [s_9] σ σ_40 := FC_tr frσ_2 flσ_40 (by first | decide | (rcases hE with rfl | rfl | rfl <;> decide)) (by first | decide | (rcases hE with rfl | rfl | rfl <;> decide)) (by simp) (by simp)
        have hkσ_40 : (σ_40 kB_shape 0).toNat = s_9 := by rw [FC_at frσ_40 (c := kB_shape) (by decide)]; exact hkσ
        try rw [hkσ_40]
        try simp (disch := omega) only [w32_of, w64_of, w8_of] at hfl
        have c44 := iiA_points (s := s_9) hσ_40 (by first | assumption | decide | omega) 0
        have c45 := congrFun (FC_points (t := s_9) flσ_40 (by first | assumption | decide | omega) (NS_0 _)) 0
        have c46 := iiA_points (s := s_9) hσ_2 (by first | assumption | decide | omega) 0
        exact wp_some (x_inr (x_inr ⟨hσ_40, frσ_40, (fun q => absurd (q.symm.trans hfl) (by decide)), (fun q => absurd (q.symm.trans hfl) (by decide))⟩))
    · try simp (disch := omega) only [w32_of, w64_of, w8_of, decide_eq_true_eq, decide_eq_false_iff_not, Bool.not_eq_true] at c5
      have c47 := iiA_points (s := s_9) hσ_2 (by first | assumption | decide | omega) 0
      exact wp_some (x_inr (x_inl ⟨hσ_2, frσ_2, (by (try dsimp only) <;> first | assumption | omega | ((try simp (disch := omega) only [w32_of, w64_of, w8_of]) <;> first | assumption | omega | (split <;> omega) | (refine And.intro ?_ ?_ <;> split <;> omega)) | omega), (by (try dsimp only) <;> (exact hpp))⟩))
  rintro ⟨i_43, σ_44⟩ y49
  try dsimp only at y49 ⊢
  obtain ⟨hσ_44, frσ_44, g48, hpp⟩ := y49
  have hkσ_44 : (σ_44 kB_shape 0).toNat = s_9 := by rw [FC_at frσ_44 (c := kB_shape) (by decide)]; exact hkσ
  try rw [hkσ_44]
  have c50 := iiA_points (s := s_9) hσ_44 (by first | assumption | decide | omega) 0
  have c51 := iiA_points (s := s_9) hσ (by first | assumption | decide | omega) 0
  exact wp_some ⟨hσ_44, frσ_44, (by (try dsimp only) <;> (intro q9; first | exact absurd q9 (by decide) | (rw [hfl] at q9; exact absurd q9 (by decide)) | omega)), (by (try dsimp only) <;> (intro q9; first | exact absurd q9 (by decide) | (rw [hfl] at q9; exact absurd q9 (by decide)) | exact hpp))⟩
theorem s_B_readRings {σ : SG} {rings_0 : Int} {s_9 : Nat} (hσ : II σ) (hs_s_9 : isS s_9) (hkσ : (σ kB_shape 0).toNat = s_9) (w0 : 0 ≤ rings_0 ∧ rings_0 ≤ 4294967295) : wp_ (fB_readRings σ rings_0) (fun zz_ => II zz_.2 ∧ FC [kB_at, kB_number, kB_place, kB_wrong] [s_9] σ zz_.2 ∧ ((zz_.1 = true) → (RNg σ zz_.2 s_9 rings_0))) := by
  unfold fB_readRings
  have hpt := iiA_points hσ hs_s_9 0
  have hpl := iiA_plans hσ hs_s_9 0
  try rw [hkσ]
  refine wp_bx (P := fun rr_ => II rr_.2 ∧ FC [kB_at, kB_number, kB_place, kB_wrong] [s_9] σ rr_.2 ∧ (RNg σ rr_.2 s_9 rings_0)) ?_ ?_
  · refine wp_whl (fun ss_ => II ss_.2 ∧ FC [kB_at, kB_number, kB_place, kB_wrong] [s_9] σ ss_.2 ∧ (0 ≤ ss_.1 ∧ ss_.1 ≤ rings_0) ∧ (RNg σ ss_.2 s_9 ss_.1)) (fun ss_ => (2049 - ss_.1).toNat) ⟨hσ, (FC_refl _ _ _), (by (try dsimp only) <;> first | assumption | omega | ((try simp (disch := omega) only [w32_of, w64_of, w8_of]) <;> first | assumption | omega | (split <;> omega) | (refine And.intro ?_ ?_ <;> split <;> omega)) | omega), (by (try dsimp only) <;> (first | exact RNg_0 _ _ | exact hgo))⟩ ?_
    rintro ⟨ring_1, σ_2⟩ y2
    try dsimp only at y2 ⊢
    obtain ⟨hσ_2, frσ_2, g1, hrg⟩ := y2
    have hkσ_2 : (σ_2 kB_shape 0).toNat = s_9 := by rw [FC_at frσ_2 (c := kB_shape) (by decide)]; exact hkσ
    try rw [hkσ_2]
    have hle := RNg_le hσ_2 hσ hs_s_9 hrg
    have c4 := w64_rng ring_1
    have c5 := w64_rng rings_0
    refine wp_if (fun c3 => ?_) (fun c3 => ?_)
    · try simp (disch := omega) only [w32_of, w64_of, w8_of, decide_eq_true_eq, decide_eq_false_iff_not, Bool.not_eq_true] at c3
      refine wp_ck (by first | assumption | decide | omega) ?_
      refine wp_bd (v_addRing (σ := σ_2) (this_0 := s_9) (length_0 := 0) hσ_2 (by first | assumption | decide | omega)) ?_
      rintro ⟨x_14, σ_13⟩ - y6
      try dsimp only at y6 ⊢
      obtain ⟨hσ_13, flσ_13, hr1, hr2, hr3, hr4, hr5, hr6⟩ := y6
      have frσ_13 : FC [kB_at, kB_number, kB_place, kB_wrong] [s_9] σ σ_13 := FC_tr frσ_2 flσ_13 (by first | decide | (rcases hE with rfl | rfl | rfl <;> decide)) (by first | decide | (rcases hE with rfl | rfl | rfl <;> decide)) (by simp) (by simp)
      have hkσ_13 : (σ_13 kB_shape 0).toNat = s_9 := by rw [FC_at frσ_13 (c := kB_shape) (by decide)]; exact hkσ
      try rw [hkσ_13]
      have c7 := iiA_plans (s := s_9) hσ_2 (by first | assumption | decide | omega) 0
      try simp (disch := omega) only [w32_of, w64_of, w8_of] at hr1
      try simp (disch := omega) only [w32_of, w64_of, w8_of] at hr2
      have c8 := iiA_plans (s := s_9) hσ_13 (by first | assumption | decide | omega) 0
      try simp (disch := omega) only [w32_of, w64_of, w8_of] at hr3
      try simp (disch := omega) only [w32_of, w64_of, w8_of] at hr4
      try simp (disch := omega) only [w32_of, w64_of, w8_of] at hr5
      try simp (disch := omega) only [w32_of, w64_of, w8_of] at hr6
      refine wp_if (fun c9 => ?_) (fun c9 => ?_)
      · have k10 := hr1.mp c9
        try simp (disch := omega) only [w32_of, w64_of, w8_of] at k10
        have k12 := hr3 c9
        try simp (disch := omega) only [w32_of, w64_of, w8_of] at k12
        try simp (disch := omega) only [w32_of, w64_of, w8_of, decide_eq_true_eq, decide_eq_false_iff_not, Bool.not_eq_true] at c9
        have c14 := ii_kB_length hσ_13 0
        have c15 := FC_at flσ_13 (c := kB_length) (by first | decide | (rcases hE with rfl | rfl | rfl <;> decide)) 0
        have c16 := ii_kB_length hσ_2 0
        have c17 := FC_at frσ_2 (c := kB_length) (by first | decide | (rcases hE with rfl | rfl | rfl <;> decide)) 0
        have c18 := ii_kB_length hσ 0
        have c19 := ii_kB_at hσ_13 0
        have c20 := FC_at flσ_13 (c := kB_at) (by first | decide | (rcases hE with rfl | rfl | rfl <;> decide)) 0
        have c21 := ii_kB_at hσ_2 0
        refine wp_if (fun c13 => ?_) (fun c13 => ?_)
        · try simp (disch := omega) only [w32_of, w64_of, w8_of, decide_eq_true_eq, decide_eq_false_iff_not, Bool.not_eq_true, fB_has] at c13
          refine wp_bd (v_numberAt (σ := σ_13) (from_0 := (σ_13 kB_at 0)) (bytes_0 := 4) hσ_13 (by (try dsimp only) <;> first | assumption | omega | ((try simp (disch := omega) only [w32_of, w64_of, w8_of]) <;> first | assumption | omega | (split <;> omega) | (refine And.intro ?_ ?_ <;> split <;> omega)) | omega) (by (try dsimp only) <;> first | assumption | omega | ((try simp (disch := omega) only [w32_of, w64_of, w8_of]) <;> first | assumption | omega | (split <;> omega) | (refine And.intro ?_ ?_ <;> split <;> omega)) | omega)) ?_
          rintro x_18 - ⟨hn0, hn4⟩
          try simp (disch := omega) only [w32_of, w64_of, w8_of] at hn0
          try simp (disch := omega) only [w32_of, w64_of, w8_of] at hn4
          have hn5 : 0 ≤ x_18 ∧ x_18 ≤ 4294967295 := by first | exact hn4 trivial | exact hn4 rfl
          have c23 := w64_rng x_18
          refine wp_if (fun c22 => ?_) (fun c22 => ?_)
          · try simp (disch := omega) only [w32_of, w64_of, w8_of, decide_eq_true_eq, decide_eq_false_iff_not, Bool.not_eq_true] at c22
            refine wp_bd (v_failB (σ := σ_13) (code_0 := 4) hσ_13 (by (try dsimp only) <;> first | assumption | omega | ((try simp (disch := omega) only [w32_of, w64_of, w8_of]) <;> first | assumption | omega | (split <;> omega) | (refine And.intro ?_ ?_ <;> split <;> omega)) | omega)) ?_
            rintro ⟨x_22, σ_21⟩ - y24
            try dsimp only at y24 ⊢
            obtain ⟨hσ_21, flσ_21, hfl⟩ := y24
            have frσ_21 : FC [kB_at, kB_number, kB_place, kB_wrong] [s_9] σ σ_21 := FC_tr frσ_13 flσ_21 (by first | decide | (rcases hE with rfl | rfl | rfl <;> decide)) (by first | decide | (rcases hE with rfl | rfl | rfl <;> decide)) (by simp) (by simp)
            have hkσ_21 : (σ_21 kB_shape 0).toNat = s_9 := by rw [FC_at frσ_21 (c := kB_shape) (by decide)]; exact hkσ
            try rw [hkσ_21]
            try simp (disch := omega) only [w32_of, w64_of, w8_of] at hfl
            exact wp_some (x_inr (x_inr ⟨hσ_21, frσ_21, (fun q => absurd (q.symm.trans hfl) (by decide))⟩))
          · try simp (disch := omega) only [w32_of, w64_of, w8_of, decide_eq_true_eq, decide_eq_false_iff_not, Bool.not_eq_true] at c22
            refine wp_wfI hσ_13 b_kB_at (by (try dsimp only) <;> first | assumption | omega | ((try simp (disch := omega) only [w32_of, w64_of, w8_of]) <;> first | assumption | omega | (split <;> omega) | (refine And.intro ?_ ?_ <;> split <;> omega)) | omega) (fun σ_23 hσ_23 eσ_23 => ?_)
            try simp (disch := omega) only [w32_of, w64_of, w8_of] at eσ_23
            have flσ_23 := FC_sg eσ_23 (by first | decide | (rcases hE with rfl | rfl | rfl <;> decide))
            have frσ_23 : FC [kB_at, kB_number, kB_place, kB_wrong] [s_9] σ σ_23 := FC_tr frσ_13 flσ_23 (by first | decide | (rcases hE with rfl | rfl | rfl <;> decide)) (by first | decide | (rcases hE with rfl | rfl | rfl <;> decide)) (by simp) (by simp)
            have hkσ_23 : (σ_23 kB_shape 0).toNat = s_9 := by rw [FC_at frσ_23 (c := kB_shape) (by decide)]; exact hkσ
            try rw [hkσ_23]
            refine wp_ck (by first | assumption | decide | omega) ?_
            refine wp_ck (by first | assumption | decide | omega) ?_
            have c25 := iiA_plans (s := s_9) hσ_23 (by first | assumption | decide | omega) 0
            have c26 := congrFun (FC_plans (t := s_9) flσ_23 (by first | assumption | decide | omega) (NS_0 _)) 0
            have c27 := w32_rng ((σ_23 (kA_plans s_9) 0) - 1)
            refine wp_waN hσ_23 (bA_plan (s := s_9) (by first | assumption | decide | omega)) (by (try dsimp only) <;> first | assumption | omega | ((try simp (disch := omega) only [w32_of, w64_of, w8_of]) <;> first | assumption | omega | (split <;> omega) | (refine And.intro ?_ ?_ <;> split <;> omega)) | omega) (by (try dsimp only) <;> first | assumption | omega | ((try simp (disch := omega) only [w32_of, w64_of, w8_of]) <;> first | assumption | omega | (split <;> omega) | (refine And.intro ?_ ?_ <;> split <;> omega)) | omega) (fun σ_26 hσ_26 eσ_26 => ?_)
            try simp (disch := omega) only [w32_of, w64_of, w8_of] at eσ_26
            have flσ_26 := FS_plan eσ_26 (by first | assumption | decide | omega)
            have frσ_26 : FC [kB_at, kB_number, kB_place, kB_wrong] [s_9] σ σ_26 := FC_tr frσ_23 flσ_26 (by first | decide | (rcases hE with rfl | rfl | rfl <;> decide)) (by first | decide | (rcases hE with rfl | rfl | rfl <;> decide)) (by simp) (by simp)
            have hkσ_26 : (σ_26 kB_shape 0).toNat = s_9 := by rw [FC_at frσ_26 (c := kB_shape) (by decide)]; exact hkσ
            try rw [hkσ_26]
            have c28 := ii_kB_shape hσ_26 0
            have c29 := FC_at flσ_26 (c := kB_shape) (by first | decide | (rcases hE with rfl | rfl | rfl <;> decide)) 0
            have c30 := ii_kB_shape hσ_23 0
            have c31 := FC_at flσ_23 (c := kB_shape) (by first | decide | (rcases hE with rfl | rfl | rfl <;> decide)) 0
            have c32 := ii_kB_shape hσ_13 0
            have c33 := FC_at flσ_13 (c := kB_shape) (by first | decide | (rcases hE with rfl | rfl | rfl <;> decide)) 0
            have c34 := ii_kB_shape hσ_2 0
            have c35 := FC_at frσ_2 (c := kB_shape) (by first | decide | (rcases hE with rfl | rfl | rfl <;> decide)) 0
            have c36 := ii_kB_shape hσ 0
            refine wp_bd (s_B_readCoordinates (σ := σ_26) (points_0 := x_18) hσ_26 (by first | assumption | decide | omega) (by (try dsimp only) <;> first | assumption | omega | ((try simp (disch := omega) only [w32_of, w64_of, w8_of]) <;> first | assumption | omega | (split <;> omega) | (refine And.intro ?_ ?_ <;> split <;> omega)) | omega) (by (try dsimp only) <;> first | assumption | omega | ((try simp (disch := omega) only [w32_of, w64_of, w8_of]) <;> first | assumption | omega | (split <;> omega) | (refine And.intro ?_ ?_ <;> split <;> omega)) | omega)) ?_
            rintro ⟨x_30, σ_29⟩ - y37
            try dsimp only at y37 ⊢
            obtain ⟨hσ_29, flσ_29, hc1, hc2⟩ := y37
            have frσ_29 : FC [kB_at, kB_number, kB_place, kB_wrong] [s_9] σ σ_29 := FC_tr frσ_26 flσ_29 (by first | decide | (rcases hE with rfl | rfl | rfl <;> decide)) (by first | decide | (rcases hE with rfl | rfl | rfl <;> decide)) (by simp) (by simp)
            have hkσ_29 : (σ_29 kB_shape 0).toNat = s_9 := by rw [FC_at frσ_29 (c := kB_shape) (by decide)]; exact hkσ
            try rw [hkσ_29]
            have c38 := iiA_points (s := s_9) hσ_29 (by first | assumption | decide | omega) 0
            have c39 := iiA_points (s := s_9) hσ_26 (by first | assumption | decide | omega) 0
            have c40 := (congrFun (congrFun eσ_26 (kA_points s_9)) 0).trans (sg_nc (ncA_points_plan _))
            have c41 := iiA_points (s := s_9) hσ_23 (by first | assumption | decide | omega) 0
            have c42 := congrFun (FC_points (t := s_9) flσ_23 (by first | assumption | decide | omega) (NS_0 _)) 0
            have c43 := iiA_points (s := s_9) hσ_13 (by first | assumption | decide | omega) 0
            try simp (disch := omega) only [w32_of, w64_of, w8_of] at hc1
            try simp (disch := omega) only [w32_of, w64_of, w8_of] at hc2
            refine wp_if (fun c44 => ?_) (fun c44 => ?_)
            · have k45 := hc1 c44
              try simp (disch := omega) only [w32_of, w64_of, w8_of] at k45
              have k46 := hc2 c44
              try simp (disch := omega) only [w32_of, w64_of, w8_of] at k46
              try simp (disch := omega) only [w32_of, w64_of, w8_of, decide_eq_true_eq, decide_eq_false_iff_not, Bool.not_eq_true] at c44
              have hgo := RNg_go hs_s_9 hrg (hr3 (by assumption)) hr4 flσ_23 eσ_26 (by omega) (hc2 (by assumption)) (hc1 (by assumption))
              exact wp_some (x_inl ⟨⟨hσ_29, frσ_29, (by (try dsimp only) <;> first | assumption | omega | ((try simp (disch := omega) only [w32_of, w64_of, w8_of]) <;> first | assumption | omega | (split <;> omega) | (refine And.intro ?_ ?_ <;> split <;> omega)) | omega), (by (try dsimp only) <;> (first | exact RNg_0 _ _ | exact hgo))⟩, (by (try dsimp only) <;> first | assumption | omega | ((try simp (disch := omega) only [w32_of, w64_of, w8_of]) <;> first | assumption | omega | (split <;> omega) | (refine And.intro ?_ ?_ <;> split <;> omega)) | omega)⟩)
            · try simp (disch := omega) only [w32_of, w64_of, w8_of, decide_eq_true_eq, decide_eq_false_iff_not, Bool.not_eq_true] at c44
              exact wp_some (x_inr (x_inr ⟨hσ_29, frσ_29, (fun q => (by cases q))⟩))
        · try simp (disch := omega) only [w32_of, w64_of, w8_of, decide_eq_true_eq, decide_eq_false_iff_not, Bool.not_eq_true, fB_has] at c13
          refine wp_bd (v_failB (σ := σ_13) (code_0 := 3) hσ_13 (by (try dsimp only) <;> first | assumption | omega | ((try simp (disch := omega) only [w32_of, w64_of, w8_of]) <;> first | assumption | omega | (split <;> omega) | (refine And.intro ?_ ?_ <;> split <;> omega)) | omega)) ?_
          rintro ⟨x_35, σ_34⟩ - y49
          try dsimp only at y49 ⊢
          obtain ⟨hσ_34, flσ_34, hfl⟩ := y49
          have frσ_34 : FC [kB_at, kB_number, kB_place, kB_wrong] [s_9] σ σ_34 := FC_tr frσ_13 flσ_34 (by first | decide | (rcases hE with rfl | rfl | rfl <;> decide)) (by first | decide | (rcases hE with rfl | rfl | rfl <;> decide)) (by simp) (by simp)
          have hkσ_34 : (σ_34 kB_shape 0).toNat = s_9 := by rw [FC_at frσ_34 (c := kB_shape) (by decide)]; exact hkσ
          try rw [hkσ_34]
          try simp (disch := omega) only [w32_of, w64_of, w8_of] at hfl
          exact wp_some (x_inr (x_inr ⟨hσ_34, frσ_34, (fun q => absurd (q.symm.trans hfl) (by decide))⟩))
      · have k50 := fun q => c9 (hr1.mpr q)
        try simp (disch := omega) only [w32_of, w64_of, w8_of] at k50
        have k51 := hr2 (Bool.eq_false_iff.mpr c9)
        try simp (disch := omega) only [w32_of, w64_of, w8_of] at k51
        try simp (disch := omega) only [w32_of, w64_of, w8_of, decide_eq_true_eq, decide_eq_false_iff_not, Bool.not_eq_true] at c9
        refine wp_bd (v_failB (σ := σ_13) (code_0 := 7) hσ_13 (by (try dsimp only) <;> first | assumption | omega | ((try simp (disch := omega) only [w32_of, w64_of, w8_of]) <;> first | assumption | omega | (split <;> omega) | (refine And.intro ?_ ?_ <;> split <;> omega)) | omega)) ?_
        rintro ⟨x_38, σ_37⟩ - y53
        try dsimp only at y53 ⊢
        obtain ⟨hσ_37, flσ_37, hfl⟩ := y53
        have frσ_37 : FC [kB_at, kB_number, kB_place, kB_wrong] [s_9] σ σ_37 := FC_tr frσ_13 flσ_37 (by first | decide | (rcases hE with rfl | rfl | rfl <;> decide)) (by first | decide | (rcases hE with rfl | rfl | rfl <;> decide)) (by simp) (by simp)
        have hkσ_37 : (σ_37 kB_shape 0).toNat = s_9 := by rw [FC_at frσ_37 (c := kB_shape) (by decide)]; exact hkσ
        try rw [hkσ_37]
        try simp (disch := omega) only [w32_of, w64_of, w8_of] at hfl
        exact wp_some (x_inr (x_inr ⟨hσ_37, frσ_37, (fun q => absurd (q.symm.trans hfl) (by decide))⟩))
    · try simp (disch := omega) only [w32_of, w64_of, w8_of, decide_eq_true_eq, decide_eq_false_iff_not, Bool.not_eq_true] at c3
      exact wp_some (x_inr (x_inl ⟨hσ_2, frσ_2, (by (try dsimp only) <;> (rw [show rings_0 = ring_1 by omega]; exact hrg))⟩))
  rintro ⟨ring_40, σ_41⟩ y54
  try dsimp only at y54 ⊢
  obtain ⟨hσ_41, frσ_41, hrg⟩ := y54
  have hkσ_41 : (σ_41 kB_shape 0).toNat = s_9 := by rw [FC_at frσ_41 (c := kB_shape) (by decide)]; exact hkσ
  try rw [hkσ_41]
  exact wp_some ⟨hσ_41, frσ_41, (by (try dsimp only) <;> (intro q9; first | exact absurd q9 (by decide) | (rw [hfl] at q9; exact absurd q9 (by decide)) | exact hrg))⟩
theorem s_B_readPoint {σ : SG} {counter_0 : Int} {s_9 : Nat} (hσ : II σ) (hs_s_9 : isS s_9) (hkσ : (σ kB_shape 0).toNat = s_9) (w0 : counter_0 = σ (kA_plans s_9) 0 - 1) (w1 : 1 ≤ σ (kA_plans s_9) 0) (w2 : σ (kA_plan s_9) counter_0 = 0) : wp_ (fB_readPoint σ counter_0) (fun zz_ => II zz_.2 ∧ FC [kB_at, kB_number, kB_place, kB_wrong] [s_9] σ zz_.2 ∧ ((zz_.1 = true) → (PTd σ zz_.2 s_9 counter_0))) := by
  unfold fB_readPoint
  have c1 := iiA_plans (s := s_9) hσ (by first | assumption | decide | omega) 0
  have hpl := iiA_plans hσ hs_s_9 0
  try rw [hkσ]
  have c3 := ii_kB_length hσ 0
  have c4 := ii_kB_at hσ 0
  refine wp_if (fun c2 => ?_) (fun c2 => ?_)
  · try simp (disch := omega) only [w32_of, w64_of, w8_of, decide_eq_true_eq, decide_eq_false_iff_not, Bool.not_eq_true, fB_has] at c2
    refine wp_bd (v_numberAt (σ := σ) (from_0 := (σ kB_at 0)) (bytes_0 := 8) hσ (by (try dsimp only) <;> first | assumption | omega | ((try simp (disch := omega) only [w32_of, w64_of, w8_of]) <;> first | assumption | omega | (split <;> omega) | (refine And.intro ?_ ?_ <;> split <;> omega)) | omega) (by (try dsimp only) <;> first | assumption | omega | ((try simp (disch := omega) only [w32_of, w64_of, w8_of]) <;> first | assumption | omega | (split <;> omega) | (refine And.intro ?_ ?_ <;> split <;> omega)) | omega)) ?_
    rintro x_20 - ⟨g5, g6⟩
    try simp (disch := omega) only [w32_of, w64_of, w8_of] at g5
    try simp (disch := omega) only [w32_of, w64_of, w8_of] at g6
    refine wp_if (fun c7 => ?_) (fun c7 => ?_)
    · try simp (disch := omega) only [w32_of, w64_of, w8_of, decide_eq_true_eq, decide_eq_false_iff_not, Bool.not_eq_true, fB_isNoNumber] at c7
      refine wp_bd (v_numberAt (σ := σ) (from_0 := ((σ kB_at 0) + 8)) (bytes_0 := 8) hσ (by (try dsimp only) <;> first | assumption | omega | ((try simp (disch := omega) only [w32_of, w64_of, w8_of]) <;> first | assumption | omega | (split <;> omega) | (refine And.intro ?_ ?_ <;> split <;> omega)) | omega) (by (try dsimp only) <;> first | assumption | omega | ((try simp (disch := omega) only [w32_of, w64_of, w8_of]) <;> first | assumption | omega | (split <;> omega) | (refine And.intro ?_ ?_ <;> split <;> omega)) | omega)) ?_
      rintro x_23 - ⟨g8, g9⟩
      try simp (disch := omega) only [w32_of, w64_of, w8_of] at g8
      try simp (disch := omega) only [w32_of, w64_of, w8_of] at g9
      refine wp_if (fun c10 => ?_) (fun c10 => ?_)
      · try simp (disch := omega) only [w32_of, w64_of, w8_of, decide_eq_true_eq, decide_eq_false_iff_not, Bool.not_eq_true, fB_isNoNumber] at c10
        refine wp_wfI hσ b_kB_at (by (try dsimp only) <;> first | assumption | omega | ((try simp (disch := omega) only [w32_of, w64_of, w8_of]) <;> first | assumption | omega | (split <;> omega) | (refine And.intro ?_ ?_ <;> split <;> omega)) | omega) (fun σ_25 hσ_25 eσ_25 => ?_)
        try simp (disch := omega) only [w32_of, w64_of, w8_of] at eσ_25
        have flσ_25 := FC_sg eσ_25 (by first | decide | (rcases hE with rfl | rfl | rfl <;> decide))
        have frσ_25 : FC [kB_at, kB_number, kB_place, kB_wrong] [s_9] σ σ_25 := FC_le flσ_25 (by first | decide | (rcases hE with rfl | rfl | rfl <;> decide)) (by simp)
        have hkσ_25 : (σ_25 kB_shape 0).toNat = s_9 := by rw [FC_at frσ_25 (c := kB_shape) (by decide)]; exact hkσ
        try rw [hkσ_25]
        exact wp_some ⟨hσ_25, frσ_25, (by (try dsimp only) <;> (intro q9; first | exact PTd_0 flσ_25 hs_s_9 w2 | exact PTd_1 eσ_27 (hc1 q9) (hc2 q9) | exact PTd_1 eσ_33 (hc1 q9) (hc2 q9) | exact PTd_1 eσ_39 (hc1 q9) (hc2 q9)))⟩
      · try simp (disch := omega) only [w32_of, w64_of, w8_of, decide_eq_true_eq, decide_eq_false_iff_not, Bool.not_eq_true, fB_isNoNumber] at c10
        refine wp_ck (by first | assumption | decide | omega) ?_
        have c11 := w32_rng counter_0
        refine wp_waN hσ (bA_plan (s := s_9) (by first | assumption | decide | omega)) (by (try dsimp only) <;> first | assumption | omega | ((try simp (disch := omega) only [w32_of, w64_of, w8_of]) <;> first | assumption | omega | (split <;> omega) | (refine And.intro ?_ ?_ <;> split <;> omega)) | omega) (by (try dsimp only) <;> first | assumption | omega | ((try simp (disch := omega) only [w32_of, w64_of, w8_of]) <;> first | assumption | omega | (split <;> omega) | (refine And.intro ?_ ?_ <;> split <;> omega)) | omega) (fun σ_27 hσ_27 eσ_27 => ?_)
        try simp (disch := omega) only [w32_of, w64_of, w8_of] at eσ_27
        have flσ_27 := FS_plan eσ_27 (by first | assumption | decide | omega)
        have frσ_27 : FC [kB_at, kB_number, kB_place, kB_wrong] [s_9] σ σ_27 := FC_le flσ_27 (by first | decide | (rcases hE with rfl | rfl | rfl <;> decide)) (by simp)
        have hkσ_27 : (σ_27 kB_shape 0).toNat = s_9 := by rw [FC_at frσ_27 (c := kB_shape) (by decide)]; exact hkσ
        try rw [hkσ_27]
        have c12 := ii_kB_shape hσ_27 0
        have c13 := FC_at flσ_27 (c := kB_shape) (by first | decide | (rcases hE with rfl | rfl | rfl <;> decide)) 0
        have c14 := ii_kB_shape hσ 0
        refine wp_bd (s_B_readCoordinates (σ := σ_27) (points_0 := 1) hσ_27 (by first | assumption | decide | omega) (by (try dsimp only) <;> first | assumption | omega | ((try simp (disch := omega) only [w32_of, w64_of, w8_of]) <;> first | assumption | omega | (split <;> omega) | (refine And.intro ?_ ?_ <;> split <;> omega)) | omega) (by (try dsimp only) <;> first | assumption | omega | ((try simp (disch := omega) only [w32_of, w64_of, w8_of]) <;> first | assumption | omega | (split <;> omega) | (refine And.intro ?_ ?_ <;> split <;> omega)) | omega)) ?_
        rintro ⟨x_31, σ_30⟩ - y15
        try dsimp only at y15 ⊢
        obtain ⟨hσ_30, flσ_30, hc1, hc2⟩ := y15
        have frσ_30 : FC [kB_at, kB_number, kB_place, kB_wrong] [s_9] σ σ_30 := FC_tr frσ_27 flσ_30 (by first | decide | (rcases hE with rfl | rfl | rfl <;> decide)) (by first | decide | (rcases hE with rfl | rfl | rfl <;> decide)) (by simp) (by simp)
        have hkσ_30 : (σ_30 kB_shape 0).toNat = s_9 := by rw [FC_at frσ_30 (c := kB_shape) (by decide)]; exact hkσ
        try rw [hkσ_30]
        have c16 := iiA_points (s := s_9) hσ_30 (by first | assumption | decide | omega) 0
        have c17 := iiA_points (s := s_9) hσ_27 (by first | assumption | decide | omega) 0
        have c18 := (congrFun (congrFun eσ_27 (kA_points s_9)) 0).trans (sg_nc (ncA_points_plan _))
        have c19 := iiA_points (s := s_9) hσ (by first | assumption | decide | omega) 0
        try simp (disch := omega) only [w32_of, w64_of, w8_of] at hc1
        try simp (disch := omega) only [w32_of, w64_of, w8_of] at hc2
        exact wp_some ⟨hσ_30, frσ_30, (by (try dsimp only) <;> (intro q9; first | exact PTd_0 flσ_25 hs_s_9 w2 | exact PTd_1 eσ_27 (hc1 q9) (hc2 q9) | exact PTd_1 eσ_33 (hc1 q9) (hc2 q9) | exact PTd_1 eσ_39 (hc1 q9) (hc2 q9)))⟩
    · try simp (disch := omega) only [w32_of, w64_of, w8_of, decide_eq_true_eq, decide_eq_false_iff_not, Bool.not_eq_true, fB_isNoNumber] at c7
      refine wp_ck (by first | assumption | decide | omega) ?_
      have c20 := w32_rng counter_0
      refine wp_waN hσ (bA_plan (s := s_9) (by first | assumption | decide | omega)) (by (try dsimp only) <;> first | assumption | omega | ((try simp (disch := omega) only [w32_of, w64_of, w8_of]) <;> first | assumption | omega | (split <;> omega) | (refine And.intro ?_ ?_ <;> split <;> omega)) | omega) (by (try dsimp only) <;> first | assumption | omega | ((try simp (disch := omega) only [w32_of, w64_of, w8_of]) <;> first | assumption | omega | (split <;> omega) | (refine And.intro ?_ ?_ <;> split <;> omega)) | omega) (fun σ_33 hσ_33 eσ_33 => ?_)
      try simp (disch := omega) only [w32_of, w64_of, w8_of] at eσ_33
      have flσ_33 := FS_plan eσ_33 (by first | assumption | decide | omega)
      have frσ_33 : FC [kB_at, kB_number, kB_place, kB_wrong] [s_9] σ σ_33 := FC_le flσ_33 (by first | decide | (rcases hE with rfl | rfl | rfl <;> decide)) (by simp)
      have hkσ_33 : (σ_33 kB_shape 0).toNat = s_9 := by rw [FC_at frσ_33 (c := kB_shape) (by decide)]; exact hkσ
      try rw [hkσ_33]
      have c21 := ii_kB_shape hσ_33 0
      have c22 := FC_at flσ_33 (c := kB_shape) (by first | decide | (rcases hE with rfl | rfl | rfl <;> decide)) 0
      have c23 := ii_kB_shape hσ 0
      refine wp_bd (s_B_readCoordinates (σ := σ_33) (points_0 := 1) hσ_33 (by first | assumption | decide | omega) (by (try dsimp only) <;> first | assumption | omega | ((try simp (disch := omega) only [w32_of, w64_of, w8_of]) <;> first | assumption | omega | (split <;> omega) | (refine And.intro ?_ ?_ <;> split <;> omega)) | omega) (by (try dsimp only) <;> first | assumption | omega | ((try simp (disch := omega) only [w32_of, w64_of, w8_of]) <;> first | assumption | omega | (split <;> omega) | (refine And.intro ?_ ?_ <;> split <;> omega)) | omega)) ?_
      rintro ⟨x_37, σ_36⟩ - y24
      try dsimp only at y24 ⊢
      obtain ⟨hσ_36, flσ_36, hc1, hc2⟩ := y24
      have frσ_36 : FC [kB_at, kB_number, kB_place, kB_wrong] [s_9] σ σ_36 := FC_tr frσ_33 flσ_36 (by first | decide | (rcases hE with rfl | rfl | rfl <;> decide)) (by first | decide | (rcases hE with rfl | rfl | rfl <;> decide)) (by simp) (by simp)
      have hkσ_36 : (σ_36 kB_shape 0).toNat = s_9 := by rw [FC_at frσ_36 (c := kB_shape) (by decide)]; exact hkσ
      try rw [hkσ_36]
      have c25 := iiA_points (s := s_9) hσ_36 (by first | assumption | decide | omega) 0
      have c26 := iiA_points (s := s_9) hσ_33 (by first | assumption | decide | omega) 0
      have c27 := (congrFun (congrFun eσ_33 (kA_points s_9)) 0).trans (sg_nc (ncA_points_plan _))
      have c28 := iiA_points (s := s_9) hσ (by first | assumption | decide | omega) 0
      try simp (disch := omega) only [w32_of, w64_of, w8_of] at hc1
      try simp (disch := omega) only [w32_of, w64_of, w8_of] at hc2
      exact wp_some ⟨hσ_36, frσ_36, (by (try dsimp only) <;> (intro q9; first | exact PTd_0 flσ_25 hs_s_9 w2 | exact PTd_1 eσ_27 (hc1 q9) (hc2 q9) | exact PTd_1 eσ_33 (hc1 q9) (hc2 q9) | exact PTd_1 eσ_39 (hc1 q9) (hc2 q9)))⟩
  · try simp (disch := omega) only [w32_of, w64_of, w8_of, decide_eq_true_eq, decide_eq_false_iff_not, Bool.not_eq_true, fB_has] at c2
    refine wp_ck (by first | assumption | decide | omega) ?_
    have c29 := w32_rng counter_0
    refine wp_waN hσ (bA_plan (s := s_9) (by first | assumption | decide | omega)) (by (try dsimp only) <;> first | assumption | omega | ((try simp (disch := omega) only [w32_of, w64_of, w8_of]) <;> first | assumption | omega | (split <;> omega) | (refine And.intro ?_ ?_ <;> split <;> omega)) | omega) (by (try dsimp only) <;> first | assumption | omega | ((try simp (disch := omega) only [w32_of, w64_of, w8_of]) <;> first | assumption | omega | (split <;> omega) | (refine And.intro ?_ ?_ <;> split <;> omega)) | omega) (fun σ_39 hσ_39 eσ_39 => ?_)
    try simp (disch := omega) only [w32_of, w64_of, w8_of] at eσ_39
    have flσ_39 := FS_plan eσ_39 (by first | assumption | decide | omega)
    have frσ_39 : FC [kB_at, kB_number, kB_place, kB_wrong] [s_9] σ σ_39 := FC_le flσ_39 (by first | decide | (rcases hE with rfl | rfl | rfl <;> decide)) (by simp)
    have hkσ_39 : (σ_39 kB_shape 0).toNat = s_9 := by rw [FC_at frσ_39 (c := kB_shape) (by decide)]; exact hkσ
    try rw [hkσ_39]
    have c30 := ii_kB_shape hσ_39 0
    have c31 := FC_at flσ_39 (c := kB_shape) (by first | decide | (rcases hE with rfl | rfl | rfl <;> decide)) 0
    have c32 := ii_kB_shape hσ 0
    refine wp_bd (s_B_readCoordinates (σ := σ_39) (points_0 := 1) hσ_39 (by first | assumption | decide | omega) (by (try dsimp only) <;> first | assumption | omega | ((try simp (disch := omega) only [w32_of, w64_of, w8_of]) <;> first | assumption | omega | (split <;> omega) | (refine And.intro ?_ ?_ <;> split <;> omega)) | omega) (by (try dsimp only) <;> first | assumption | omega | ((try simp (disch := omega) only [w32_of, w64_of, w8_of]) <;> first | assumption | omega | (split <;> omega) | (refine And.intro ?_ ?_ <;> split <;> omega)) | omega)) ?_
    rintro ⟨x_43, σ_42⟩ - y33
    try dsimp only at y33 ⊢
    obtain ⟨hσ_42, flσ_42, hc1, hc2⟩ := y33
    have frσ_42 : FC [kB_at, kB_number, kB_place, kB_wrong] [s_9] σ σ_42 := FC_tr frσ_39 flσ_42 (by first | decide | (rcases hE with rfl | rfl | rfl <;> decide)) (by first | decide | (rcases hE with rfl | rfl | rfl <;> decide)) (by simp) (by simp)
    have hkσ_42 : (σ_42 kB_shape 0).toNat = s_9 := by rw [FC_at frσ_42 (c := kB_shape) (by decide)]; exact hkσ
    try rw [hkσ_42]
    have c34 := iiA_points (s := s_9) hσ_42 (by first | assumption | decide | omega) 0
    have c35 := iiA_points (s := s_9) hσ_39 (by first | assumption | decide | omega) 0
    have c36 := (congrFun (congrFun eσ_39 (kA_points s_9)) 0).trans (sg_nc (ncA_points_plan _))
    have c37 := iiA_points (s := s_9) hσ (by first | assumption | decide | omega) 0
    try simp (disch := omega) only [w32_of, w64_of, w8_of] at hc1
    try simp (disch := omega) only [w32_of, w64_of, w8_of] at hc2
    exact wp_some ⟨hσ_42, frσ_42, (by (try dsimp only) <;> (intro q9; first | exact PTd_0 flσ_25 hs_s_9 w2 | exact PTd_1 eσ_27 (hc1 q9) (hc2 q9) | exact PTd_1 eσ_33 (hc1 q9) (hc2 q9) | exact PTd_1 eσ_39 (hc1 q9) (hc2 q9)))⟩
theorem s_B_openLevel {σ : SG} {kind_0 : Int} {parts_0 : Int} {s_9 : Nat} (hσ : II σ) (qkind_0 : 4 ≤ kind_0 ∧ kind_0 ≤ 7) (hs_s_9 : isS s_9) (hkσ : (σ kB_shape 0).toNat = s_9) (w0 : OBq σ s_9 (σ (kA_plans s_9) 0 - 2) (σ (kA_points s_9) 0) 1) (w1 : σ (kA_plan s_9) (σ (kA_plans s_9) 0 - 2) = kind_0) (w2 : σ (kA_plan s_9) (σ (kA_plans s_9) 0 - 1) = parts_0) (w3 : 0 ≤ parts_0 ∧ parts_0 ≤ 4294967295) : wp_ (fB_openLevel σ kind_0 parts_0) (fun zz_ => II zz_.2 ∧ FC [kB_collections, kB_depth, kB_levelKind, kB_levelLeft, kB_place, kB_wrong] [] σ zz_.2 ∧ ((zz_.1 = true) → (OB zz_.2 s_9 0))) := by
  unfold fB_openLevel
  have c1 := iiA_plans (s := s_9) hσ (by first | assumption | decide | omega) 0
  have c2 := iiA_points (s := s_9) hσ (by first | assumption | decide | omega) 0
  have hdp := ii_kB_depth hσ 0
  try rw [hkσ]
  have c4 := ii_kB_depth hσ 0
  have c5 := w32_rng (σ kB_depth 0)
  refine wp_if (fun c3 => ?_) (fun c3 => ?_)
  · try simp (disch := omega) only [w32_of, w64_of, w8_of, decide_eq_true_eq, decide_eq_false_iff_not, Bool.not_eq_true] at c3
    refine wp_bd (v_failB (σ := σ) (code_0 := 6) hσ (by (try dsimp only) <;> first | assumption | omega | ((try simp (disch := omega) only [w32_of, w64_of, w8_of]) <;> first | assumption | omega | (split <;> omega) | (refine And.intro ?_ ?_ <;> split <;> omega)) | omega)) ?_
    rintro ⟨x_4, σ_3⟩ - y6
    try dsimp only at y6 ⊢
    obtain ⟨hσ_3, flσ_3, hfl⟩ := y6
    have frσ_3 : FC [kB_collections, kB_depth, kB_levelKind, kB_levelLeft, kB_place, kB_wrong] [] σ σ_3 := FC_le flσ_3 (by first | decide | (rcases hE with rfl | rfl | rfl <;> decide)) (by simp)
    have hkσ_3 : (σ_3 kB_shape 0).toNat = s_9 := by rw [FC_at frσ_3 (c := kB_shape) (by decide)]; exact hkσ
    try rw [hkσ_3]
    try simp (disch := omega) only [w32_of, w64_of, w8_of] at hfl
    exact wp_some ⟨hσ_3, frσ_3, (fun q => absurd (q.symm.trans hfl) (by decide))⟩
  · try simp (disch := omega) only [w32_of, w64_of, w8_of, decide_eq_true_eq, decide_eq_false_iff_not, Bool.not_eq_true] at c3
    refine wp_waI hσ b_kB_levelKind (by (try dsimp only) <;> first | assumption | omega | ((try simp (disch := omega) only [w32_of, w64_of, w8_of]) <;> first | assumption | omega | (split <;> omega) | (refine And.intro ?_ ?_ <;> split <;> omega)) | omega) (by (try dsimp only) <;> first | assumption | omega | ((try simp (disch := omega) only [w32_of, w64_of, w8_of]) <;> first | assumption | omega | (split <;> omega) | (refine And.intro ?_ ?_ <;> split <;> omega)) | omega) (by (try dsimp only) <;> first | assumption | omega | ((try simp (disch := omega) only [w32_of, w64_of, w8_of]) <;> first | assumption | omega | (split <;> omega) | (refine And.intro ?_ ?_ <;> split <;> omega)) | omega) (fun σ_5 hσ_5 eσ_5 => ?_)
    try simp (disch := omega) only [w32_of, w64_of, w8_of] at eσ_5
    have flσ_5 := FC_sg eσ_5 (by first | decide | (rcases hE with rfl | rfl | rfl <;> decide))
    have frσ_5 : FC [kB_collections, kB_depth, kB_levelKind, kB_levelLeft, kB_place, kB_wrong] [] σ σ_5 := FC_le flσ_5 (by first | decide | (rcases hE with rfl | rfl | rfl <;> decide)) (by simp)
    have hkσ_5 : (σ_5 kB_shape 0).toNat = s_9 := by rw [FC_at frσ_5 (c := kB_shape) (by decide)]; exact hkσ
    try rw [hkσ_5]
    have c7 := ii_kB_depth hσ_5 0
    have c8 := FC_at flσ_5 (c := kB_depth) (by first | decide | (rcases hE with rfl | rfl | rfl <;> decide)) 0
    have c9 := w32_rng (σ_5 kB_depth 0)
    refine wp_waN hσ_5 b_kB_levelLeft (by (try dsimp only) <;> first | assumption | omega | ((try simp (disch := omega) only [w32_of, w64_of, w8_of]) <;> first | assumption | omega | (split <;> omega) | (refine And.intro ?_ ?_ <;> split <;> omega)) | omega) (by (try dsimp only) <;> first | assumption | omega | ((try simp (disch := omega) only [w32_of, w64_of, w8_of]) <;> first | assumption | omega | (split <;> omega) | (refine And.intro ?_ ?_ <;> split <;> omega)) | omega) (fun σ_7 hσ_7 eσ_7 => ?_)
    try simp (disch := omega) only [w32_of, w64_of, w8_of] at eσ_7
    have flσ_7 := FC_sg eσ_7 (by first | decide | (rcases hE with rfl | rfl | rfl <;> decide))
    have frσ_7 : FC [kB_collections, kB_depth, kB_levelKind, kB_levelLeft, kB_place, kB_wrong] [] σ σ_7 := FC_tr frσ_5 flσ_7 (by first | decide | (rcases hE with rfl | rfl | rfl <;> decide)) (by first | decide | (rcases hE with rfl | rfl | rfl <;> decide)) (by simp) (by simp)
    have hkσ_7 : (σ_7 kB_shape 0).toNat = s_9 := by rw [FC_at frσ_7 (c := kB_shape) (by decide)]; exact hkσ
    try rw [hkσ_7]
    have c10 := ii_kB_depth hσ_7 0
    have c11 := FC_at flσ_7 (c := kB_depth) (by first | decide | (rcases hE with rfl | rfl | rfl <;> decide)) 0
    refine wp_wfI hσ_7 b_kB_depth (by (try dsimp only) <;> first | assumption | omega | ((try simp (disch := omega) only [w32_of, w64_of, w8_of]) <;> first | assumption | omega | (split <;> omega) | (refine And.intro ?_ ?_ <;> split <;> omega)) | omega) (fun σ_9 hσ_9 eσ_9 => ?_)
    try simp (disch := omega) only [w32_of, w64_of, w8_of] at eσ_9
    have flσ_9 := FC_sg eσ_9 (by first | decide | (rcases hE with rfl | rfl | rfl <;> decide))
    have frσ_9 : FC [kB_collections, kB_depth, kB_levelKind, kB_levelLeft, kB_place, kB_wrong] [] σ σ_9 := FC_tr frσ_7 flσ_9 (by first | decide | (rcases hE with rfl | rfl | rfl <;> decide)) (by first | decide | (rcases hE with rfl | rfl | rfl <;> decide)) (by simp) (by simp)
    have hkσ_9 : (σ_9 kB_shape 0).toNat = s_9 := by rw [FC_at frσ_9 (c := kB_shape) (by decide)]; exact hkσ
    try rw [hkσ_9]
    refine wp_bd (P := fun rr_ => II rr_ ∧ FC [kB_collections, kB_depth, kB_levelKind, kB_levelLeft, kB_place, kB_wrong] [] σ rr_ ∧ (rr_ kB_depth 0 = σ kB_depth 0 + 1) ∧ (rr_ kB_levelLeft = σ_9 kB_levelLeft)) ?_ ?_
    · have c13 := w32_rng kind_0
      refine wp_if (fun c12 => ?_) (fun c12 => ?_)
      · try simp (disch := omega) only [w32_of, w64_of, w8_of, decide_eq_true_eq, decide_eq_false_iff_not, Bool.not_eq_true] at c12
        have c14 := FC_at flσ_9 (c := kB_collections) (by first | decide | (rcases hE with rfl | rfl | rfl <;> decide)) 0
        have c15 := FC_at flσ_7 (c := kB_collections) (by first | decide | (rcases hE with rfl | rfl | rfl <;> decide)) 0
        have c16 := FC_at flσ_5 (c := kB_collections) (by first | decide | (rcases hE with rfl | rfl | rfl <;> decide)) 0
        refine wp_wfN hσ_9 b_kB_collections (fun σ_15 hσ_15 eσ_15 => ?_)
        try simp (disch := omega) only [w32_of, w64_of, w8_of] at eσ_15
        have flσ_15 := FC_sg eσ_15 (by first | decide | (rcases hE with rfl | rfl | rfl <;> decide))
        have frσ_15 : FC [kB_collections, kB_depth, kB_levelKind, kB_levelLeft, kB_place, kB_wrong] [] σ σ_15 := FC_tr frσ_9 flσ_15 (by first | decide | (rcases hE with rfl | rfl | rfl <;> decide)) (by first | decide | (rcases hE with rfl | rfl | rfl <;> decide)) (by simp) (by simp)
        have hkσ_15 : (σ_15 kB_shape 0).toNat = s_9 := by rw [FC_at frσ_15 (c := kB_shape) (by decide)]; exact hkσ
        try rw [hkσ_15]
        have c17 := ii_kB_depth hσ_15 0
        have c18 := FC_at flσ_15 (c := kB_depth) (by first | decide | (rcases hE with rfl | rfl | rfl <;> decide)) 0
        have c19 := ii_kB_depth hσ_9 0
        have c20 := sg_val eσ_9
        exact wp_some ⟨hσ_15, frσ_15, (by (try dsimp only) <;> first | assumption | omega | ((try simp (disch := omega) only [w32_of, w64_of, w8_of]) <;> first | assumption | omega | (split <;> omega) | (refine And.intro ?_ ?_ <;> split <;> omega)) | omega), (by (try dsimp only) <;> (first | rfl | (rw [eσ_15]; funext i; exact sg_nc (by decide))))⟩
      · try simp (disch := omega) only [w32_of, w64_of, w8_of, decide_eq_true_eq, decide_eq_false_iff_not, Bool.not_eq_true] at c12
        have c21 := ii_kB_depth hσ_9 0
        have c22 := sg_val eσ_9
        exact wp_some ⟨hσ_9, frσ_9, (by (try dsimp only) <;> first | assumption | omega | ((try simp (disch := omega) only [w32_of, w64_of, w8_of]) <;> first | assumption | omega | (split <;> omega) | (refine And.intro ?_ ?_ <;> split <;> omega)) | omega), (by (try dsimp only) <;> (first | rfl | (rw [eσ_15]; funext i; exact sg_nc (by decide))))⟩
    rintro σ_18 _ ⟨hσ_18, frσ_18, g23, hll⟩
    have hkσ_18 : (σ_18 kB_shape 0).toNat = s_9 := by rw [FC_at frσ_18 (c := kB_shape) (by decide)]; exact hkσ
    try rw [hkσ_18]
    have hl9 : σ_9 kB_levelLeft = σ_7 kB_levelLeft := by rw [eσ_9]; funext i; exact sg_nc (by decide)
    have hd5 : σ_5 kB_depth 0 = σ kB_depth 0 := by rw [eσ_5]; exact sg_nc (by decide)
    rw [hd5] at eσ_7
    have hob := OB_open (τ := σ_18) w0 (FC_plan frσ_18 hs_s_9 (NS_0 _)) hdp.1 (by rw [hll, hl9, eσ_7, sg_at]) (fun i hi => by rw [hll, hl9, eσ_7, sg_ni (by omega), eσ_5, sg_nc (by decide)]) (by assumption) w1 (by omega) (by rw [show σ (kA_plans s_9) 0 - 2 + 1 = σ (kA_plans s_9) 0 - 1 by omega]; exact w2) w3 (by rw [FC_plans frσ_18 hs_s_9 (NS_0 _)]; omega) (by rw [FC_points frσ_18 hs_s_9 (NS_0 _)])
    exact wp_some ⟨hσ_18, frσ_18, (by (try dsimp only) <;> (intro q9; first | (rw [hfl] at q9; exact absurd q9 (by decide)) | exact hob))⟩
theorem s_B_readBody {σ : SG} {kind_0 : Int} {s_9 : Nat} (hσ : II σ) (qkind_0 : 1 ≤ kind_0 ∧ kind_0 ≤ 7) (hs_s_9 : isS s_9) (hkσ : (σ kB_shape 0).toNat = s_9) (w0 : OBq σ s_9 (σ (kA_plans s_9) 0 - 2) (σ (kA_points s_9) 0) 1) (w1 : σ (kA_plan s_9) (σ (kA_plans s_9) 0 - 2) = kind_0) (w2 : σ (kA_plan s_9) (σ (kA_plans s_9) 0 - 1) = 0) (w3 : 2 ≤ σ (kA_plans s_9) 0) : wp_ (fB_readBody σ kind_0) (fun zz_ => II zz_.2 ∧ FC [kB_at, kB_collections, kB_depth, kB_levelKind, kB_levelLeft, kB_number, kB_place, kB_wrong] [s_9] σ zz_.2 ∧ ((zz_.1 = true) → (OB zz_.2 s_9 0 ∧ σ (kA_plans s_9) 0 ≤ zz_.2 (kA_plans s_9) 0))) := by
  unfold fB_readBody
  have c1 := iiA_plans (s := s_9) hσ (by first | assumption | decide | omega) 0
  have c2 := iiA_points (s := s_9) hσ (by first | assumption | decide | omega) 0
  have hpl := iiA_plans hσ hs_s_9 0
  have hpt := iiA_points hσ hs_s_9 0
  have hq1 : σ (kA_plans s_9) 0 - 2 + 1 = σ (kA_plans s_9) 0 - 1 := by omega
  try rw [hkσ]
  refine wp_ck (by first | assumption | decide | omega) ?_
  have c4 := w32_rng kind_0
  refine wp_if (fun c3 => ?_) (fun c3 => ?_)
  · try simp (disch := omega) only [w32_of, w64_of, w8_of, decide_eq_true_eq, decide_eq_false_iff_not, Bool.not_eq_true] at c3
    have c5 := ii_kB_shape hσ 0
    refine wp_bd (s_B_readPoint (σ := σ) (counter_0 := ((σ (kA_plans s_9) 0) - 1)) hσ (by first | assumption | decide | omega) (by (try dsimp only) <;> first | assumption | omega | ((try simp (disch := omega) only [w32_of, w64_of, w8_of]) <;> first | assumption | omega | (split <;> omega) | (refine And.intro ?_ ?_ <;> split <;> omega)) | omega) (by (try dsimp only) <;> first | assumption | omega | ((try simp (disch := omega) only [w32_of, w64_of, w8_of]) <;> first | assumption | omega | (split <;> omega) | (refine And.intro ?_ ?_ <;> split <;> omega)) | omega) (by (try dsimp only) <;> first | assumption | omega | ((try simp (disch := omega) only [w32_of, w64_of, w8_of]) <;> first | assumption | omega | (split <;> omega) | (refine And.intro ?_ ?_ <;> split <;> omega)) | omega) (by (try dsimp only) <;> first | assumption | omega | ((try simp (disch := omega) only [w32_of, w64_of, w8_of]) <;> first | assumption | omega | (split <;> omega) | (refine And.intro ?_ ?_ <;> split <;> omega)) | omega)) ?_
    rintro ⟨x_5, σ_4⟩ - y6
    try dsimp only at y6 ⊢
    obtain ⟨hσ_4, flσ_4, hp⟩ := y6
    have frσ_4 : FC [kB_at, kB_collections, kB_depth, kB_levelKind, kB_levelLeft, kB_number, kB_place, kB_wrong] [s_9] σ σ_4 := FC_le flσ_4 (by first | decide | (rcases hE with rfl | rfl | rfl <;> decide)) (by simp)
    have hkσ_4 : (σ_4 kB_shape 0).toNat = s_9 := by rw [FC_at frσ_4 (c := kB_shape) (by decide)]; exact hkσ
    try rw [hkσ_4]
    try simp (disch := omega) only [w32_of, w64_of, w8_of] at hp
    have c7 := iiA_plans (s := s_9) hσ_4 (by first | assumption | decide | omega) 0
    exact wp_some ⟨hσ_4, frσ_4, (by (try dsimp only) <;> (intro q9; first | (rw [hfl] at q9; exact absurd q9 (by decide)) | exact OB_pt (LV_f flσ_4 (by decide)) w0 (by omega) rfl (by omega) (by rw [hq1]; exact hp q9) | exact OB_ln hσ_15 hs_s_9 (LV_tr hLw (LV_f flσ_15 (by decide))) w0 (by omega) rfl (by omega) hbw (by omega) (hc2 q9) (hc1 q9) (by omega) | exact OB_rg hσ_19 hs_s_9 (LV_tr hLw (LV_f flσ_19 (by decide))) w0 (by omega) rfl (by omega) hbw (hr q9) (by omega) | exact ⟨ho q9, by rw [FC_plans flσ_22 hs_s_9 (NS_0 _), hbw.2.1]; omega⟩))⟩
  · try simp (disch := omega) only [w32_of, w64_of, w8_of, decide_eq_true_eq, decide_eq_false_iff_not, Bool.not_eq_true] at c3
    have c9 := ii_kB_length hσ 0
    have c10 := ii_kB_at hσ 0
    refine wp_if (fun c8 => ?_) (fun c8 => ?_)
    · try simp (disch := omega) only [w32_of, w64_of, w8_of, decide_eq_true_eq, decide_eq_false_iff_not, Bool.not_eq_true, fB_has] at c8
      refine wp_bd (v_numberAt (σ := σ) (from_0 := (σ kB_at 0)) (bytes_0 := 4) hσ (by (try dsimp only) <;> first | assumption | omega | ((try simp (disch := omega) only [w32_of, w64_of, w8_of]) <;> first | assumption | omega | (split <;> omega) | (refine And.intro ?_ ?_ <;> split <;> omega)) | omega) (by (try dsimp only) <;> first | assumption | omega | ((try simp (disch := omega) only [w32_of, w64_of, w8_of]) <;> first | assumption | omega | (split <;> omega) | (refine And.intro ?_ ?_ <;> split <;> omega)) | omega)) ?_
      rintro x_8 - ⟨hn0, hn4⟩
      try simp (disch := omega) only [w32_of, w64_of, w8_of] at hn0
      try simp (disch := omega) only [w32_of, w64_of, w8_of] at hn4
      have hn5 : 0 ≤ x_8 ∧ x_8 ≤ 4294967295 := by first | exact hn4 trivial | exact hn4 rfl
      refine wp_wfI hσ b_kB_at (by (try dsimp only) <;> first | assumption | omega | ((try simp (disch := omega) only [w32_of, w64_of, w8_of]) <;> first | assumption | omega | (split <;> omega) | (refine And.intro ?_ ?_ <;> split <;> omega)) | omega) (fun σ_9 hσ_9 eσ_9 => ?_)
      try simp (disch := omega) only [w32_of, w64_of, w8_of] at eσ_9
      have flσ_9 := FC_sg eσ_9 (by first | decide | (rcases hE with rfl | rfl | rfl <;> decide))
      have frσ_9 : FC [kB_at, kB_collections, kB_depth, kB_levelKind, kB_levelLeft, kB_number, kB_place, kB_wrong] [s_9] σ σ_9 := FC_le flσ_9 (by first | decide | (rcases hE with rfl | rfl | rfl <;> decide)) (by simp)
      have hkσ_9 : (σ_9 kB_shape 0).toNat = s_9 := by rw [FC_at frσ_9 (c := kB_shape) (by decide)]; exact hkσ
      try rw [hkσ_9]
      refine wp_ck (by first | assumption | decide | omega) ?_
      have c11 := w32_rng ((σ (kA_plans s_9) 0) - 1)
      refine wp_waN hσ_9 (bA_plan (s := s_9) (by first | assumption | decide | omega)) (by (try dsimp only) <;> first | assumption | omega | ((try simp (disch := omega) only [w32_of, w64_of, w8_of]) <;> first | assumption | omega | (split <;> omega) | (refine And.intro ?_ ?_ <;> split <;> omega)) | omega) (by (try dsimp only) <;> first | assumption | omega | ((try simp (disch := omega) only [w32_of, w64_of, w8_of]) <;> first | assumption | omega | (split <;> omega) | (refine And.intro ?_ ?_ <;> split <;> omega)) | omega) (fun σ_11 hσ_11 eσ_11 => ?_)
      try simp (disch := omega) only [w32_of, w64_of, w8_of] at eσ_11
      have flσ_11 := FS_plan eσ_11 (by first | assumption | decide | omega)
      have frσ_11 : FC [kB_at, kB_collections, kB_depth, kB_levelKind, kB_levelLeft, kB_number, kB_place, kB_wrong] [s_9] σ σ_11 := FC_tr frσ_9 flσ_11 (by first | decide | (rcases hE with rfl | rfl | rfl <;> decide)) (by first | decide | (rcases hE with rfl | rfl | rfl <;> decide)) (by simp) (by simp)
      have hkσ_11 : (σ_11 kB_shape 0).toNat = s_9 := by rw [FC_at frσ_11 (c := kB_shape) (by decide)]; exact hkσ
      try rw [hkσ_11]
      have hbw := BW hs_s_9 flσ_9 eσ_11
      have hLw : LV σ σ_11 := LV_tr (LV_f flσ_9 (by decide)) (LV_f flσ_11 (by decide))
      rw [← hq1] at hbw
      refine wp_if (fun c12 => ?_) (fun c12 => ?_)
      · try simp (disch := omega) only [w32_of, w64_of, w8_of, decide_eq_true_eq, decide_eq_false_iff_not, Bool.not_eq_true] at c12
        have c13 := ii_kB_shape hσ_11 0
        have c14 := FC_at flσ_11 (c := kB_shape) (by first | decide | (rcases hE with rfl | rfl | rfl <;> decide)) 0
        have c15 := ii_kB_shape hσ_9 0
        have c16 := FC_at flσ_9 (c := kB_shape) (by first | decide | (rcases hE with rfl | rfl | rfl <;> decide)) 0
        have c17 := ii_kB_shape hσ 0
        refine wp_bd (s_B_readCoordinates (σ := σ_11) (points_0 := x_8) hσ_11 (by first | assumption | decide | omega) (by (try dsimp only) <;> first | assumption | omega | ((try simp (disch := omega) only [w32_of, w64_of, w8_of]) <;> first | assumption | omega | (split <;> omega) | (refine And.intro ?_ ?_ <;> split <;> omega)) | omega) (by (try dsimp only) <;> first | assumption | omega | ((try simp (disch := omega) only [w32_of, w64_of, w8_of]) <;> first | assumption | omega | (split <;> omega) | (refine And.intro ?_ ?_ <;> split <;> omega)) | omega)) ?_
        rintro ⟨x_16, σ_15⟩ - y18
        try dsimp only at y18 ⊢
        obtain ⟨hσ_15, flσ_15, hc1, hc2⟩ := y18
        have frσ_15 : FC [kB_at, kB_collections, kB_depth, kB_levelKind, kB_levelLeft, kB_number, kB_place, kB_wrong] [s_9] σ σ_15 := FC_tr frσ_11 flσ_15 (by first | decide | (rcases hE with rfl | rfl | rfl <;> decide)) (by first | decide | (rcases hE with rfl | rfl | rfl <;> decide)) (by simp) (by simp)
        have hkσ_15 : (σ_15 kB_shape 0).toNat = s_9 := by rw [FC_at frσ_15 (c := kB_shape) (by decide)]; exact hkσ
        try rw [hkσ_15]
        have c19 := iiA_points (s := s_9) hσ_15 (by first | assumption | decide | omega) 0
        have c20 := iiA_points (s := s_9) hσ_11 (by first | assumption | decide | omega) 0
        have c21 := (congrFun (congrFun eσ_11 (kA_points s_9)) 0).trans (sg_nc (ncA_points_plan _))
        have c22 := iiA_points (s := s_9) hσ_9 (by first | assumption | decide | omega) 0
        have c23 := congrFun (FC_points (t := s_9) flσ_9 (by first | assumption | decide | omega) (NS_0 _)) 0
        try simp (disch := omega) only [w32_of, w64_of, w8_of] at hc1
        try simp (disch := omega) only [w32_of, w64_of, w8_of] at hc2
        have c24 := iiA_plans (s := s_9) hσ_15 (by first | assumption | decide | omega) 0
        exact wp_some ⟨hσ_15, frσ_15, (by (try dsimp only) <;> (intro q9; first | (rw [hfl] at q9; exact absurd q9 (by decide)) | exact OB_pt (LV_f flσ_4 (by decide)) w0 (by omega) rfl (by omega) (by rw [hq1]; exact hp q9) | exact OB_ln hσ_15 hs_s_9 (LV_tr hLw (LV_f flσ_15 (by decide))) w0 (by omega) rfl (by omega) hbw (by omega) (hc2 q9) (hc1 q9) (by omega) | exact OB_rg hσ_19 hs_s_9 (LV_tr hLw (LV_f flσ_19 (by decide))) w0 (by omega) rfl (by omega) hbw (hr q9) (by omega) | exact ⟨ho q9, by rw [FC_plans flσ_22 hs_s_9 (NS_0 _), hbw.2.1]; omega⟩))⟩
      · try simp (disch := omega) only [w32_of, w64_of, w8_of, decide_eq_true_eq, decide_eq_false_iff_not, Bool.not_eq_true] at c12
        refine wp_if (fun c25 => ?_) (fun c25 => ?_)
        · try simp (disch := omega) only [w32_of, w64_of, w8_of, decide_eq_true_eq, decide_eq_false_iff_not, Bool.not_eq_true] at c25
          have c26 := ii_kB_shape hσ_11 0
          have c27 := FC_at flσ_11 (c := kB_shape) (by first | decide | (rcases hE with rfl | rfl | rfl <;> decide)) 0
          have c28 := ii_kB_shape hσ_9 0
          have c29 := FC_at flσ_9 (c := kB_shape) (by first | decide | (rcases hE with rfl | rfl | rfl <;> decide)) 0
          have c30 := ii_kB_shape hσ 0
          refine wp_bd (s_B_readRings (σ := σ_11) (rings_0 := x_8) hσ_11 (by first | assumption | decide | omega) (by (try dsimp only) <;> first | assumption | omega | ((try simp (disch := omega) only [w32_of, w64_of, w8_of]) <;> first | assumption | omega | (split <;> omega) | (refine And.intro ?_ ?_ <;> split <;> omega)) | omega) (by (try dsimp only) <;> first | assumption | omega | ((try simp (disch := omega) only [w32_of, w64_of, w8_of]) <;> first | assumption | omega | (split <;> omega) | (refine And.intro ?_ ?_ <;> split <;> omega)) | omega)) ?_
          rintro ⟨x_20, σ_19⟩ - y31
          try dsimp only at y31 ⊢
          obtain ⟨hσ_19, flσ_19, hr⟩ := y31
          have frσ_19 : FC [kB_at, kB_collections, kB_depth, kB_levelKind, kB_levelLeft, kB_number, kB_place, kB_wrong] [s_9] σ σ_19 := FC_tr frσ_11 flσ_19 (by first | decide | (rcases hE with rfl | rfl | rfl <;> decide)) (by first | decide | (rcases hE with rfl | rfl | rfl <;> decide)) (by simp) (by simp)
          have hkσ_19 : (σ_19 kB_shape 0).toNat = s_9 := by rw [FC_at frσ_19 (c := kB_shape) (by decide)]; exact hkσ
          try rw [hkσ_19]
          try simp (disch := omega) only [w32_of, w64_of, w8_of] at hr
          have c32 := iiA_plans (s := s_9) hσ_19 (by first | assumption | decide | omega) 0
          exact wp_some ⟨hσ_19, frσ_19, (by (try dsimp only) <;> (intro q9; first | (rw [hfl] at q9; exact absurd q9 (by decide)) | exact OB_pt (LV_f flσ_4 (by decide)) w0 (by omega) rfl (by omega) (by rw [hq1]; exact hp q9) | exact OB_ln hσ_15 hs_s_9 (LV_tr hLw (LV_f flσ_15 (by decide))) w0 (by omega) rfl (by omega) hbw (by omega) (hc2 q9) (hc1 q9) (by omega) | exact OB_rg hσ_19 hs_s_9 (LV_tr hLw (LV_f flσ_19 (by decide))) w0 (by omega) rfl (by omega) hbw (hr q9) (by omega) | exact ⟨ho q9, by rw [FC_plans flσ_22 hs_s_9 (NS_0 _), hbw.2.1]; omega⟩))⟩
        · try simp (disch := omega) only [w32_of, w64_of, w8_of, decide_eq_true_eq, decide_eq_false_iff_not, Bool.not_eq_true] at c25
          have c33 := ii_kB_shape hσ_11 0
          have c34 := FC_at flσ_11 (c := kB_shape) (by first | decide | (rcases hE with rfl | rfl | rfl <;> decide)) 0
          have c35 := ii_kB_shape hσ_9 0
          have c36 := FC_at flσ_9 (c := kB_shape) (by first | decide | (rcases hE with rfl | rfl | rfl <;> decide)) 0
          have c37 := ii_kB_shape hσ 0
          have c38 := iiA_plans (s := s_9) hσ_11 (by first | assumption | decide | omega) 0
          have c39 := (congrFun (congrFun eσ_11 (kA_plans s_9)) 0).trans (sg_nc (ncA_plans_plan _))
          have c40 := iiA_plans (s := s_9) hσ_9 (by first | assumption | decide | omega) 0
          have c41 := congrFun (FC_plans (t := s_9) flσ_9 (by first | assumption | decide | omega) (NS_0 _)) 0
          have c42 := iiA_points (s := s_9) hσ_11 (by first | assumption | decide | omega) 0
          have c43 := (congrFun (congrFun eσ_11 (kA_points s_9)) 0).trans (sg_nc (ncA_points_plan _))
          have c44 := iiA_points (s := s_9) hσ_9 (by first | assumption | decide | omega) 0
          have c45 := congrFun (FC_points (t := s_9) flσ_9 (by first | assumption | decide | omega) (NS_0 _)) 0
          refine wp_bd (s_B_openLevel (σ := σ_11) (kind_0 := kind_0) (parts_0 := x_8) hσ_11 (by (try dsimp only) <;> first | assumption | omega | ((try simp (disch := omega) only [w32_of, w64_of, w8_of]) <;> first | assumption | omega | (split <;> omega) | (refine And.intro ?_ ?_ <;> split <;> omega)) | omega) (by first | assumption | decide | omega) (by (try dsimp only) <;> first | assumption | omega | ((try simp (disch := omega) only [w32_of, w64_of, w8_of]) <;> first | assumption | omega | (split <;> omega) | (refine And.intro ?_ ?_ <;> split <;> omega)) | omega) (by rw [hbw.2.1, hbw.2.2]; exact OBq_cg w0 (fun i hi => by rw [hbw.1, if_neg (by omega)]) hLw.1 hLw.2) (by rw [hbw.2.1, hbw.1, if_neg (by omega)]; exact w1) (by rw [hbw.2.1, hbw.1, if_pos (by omega)]) (by (try dsimp only) <;> first | assumption | omega | ((try simp (disch := omega) only [w32_of, w64_of, w8_of]) <;> first | assumption | omega | (split <;> omega) | (refine And.intro ?_ ?_ <;> split <;> omega)) | omega)) ?_
          rintro ⟨x_23, σ_22⟩ - y46
          try dsimp only at y46 ⊢
          obtain ⟨hσ_22, flσ_22, ho⟩ := y46
          have frσ_22 : FC [kB_at, kB_collections, kB_depth, kB_levelKind, kB_levelLeft, kB_number, kB_place, kB_wrong] [s_9] σ σ_22 := FC_tr frσ_11 flσ_22 (by first | decide | (rcases hE with rfl | rfl | rfl <;> decide)) (by first | decide | (rcases hE with rfl | rfl | rfl <;> decide)) (by simp) (by simp)
          have hkσ_22 : (σ_22 kB_shape 0).toNat = s_9 := by rw [FC_at frσ_22 (c := kB_shape) (by decide)]; exact hkσ
          try rw [hkσ_22]
          try simp (disch := omega) only [w32_of, w64_of, w8_of] at ho
          have c47 := iiA_plans (s := s_9) hσ_22 (by first | assumption | decide | omega) 0
          have c48 := congrFun (FC_plans (t := s_9) flσ_22 (by first | assumption | decide | omega) (NS_0 _)) 0
          exact wp_some ⟨hσ_22, frσ_22, (by (try dsimp only) <;> (intro q9; first | (rw [hfl] at q9; exact absurd q9 (by decide)) | exact OB_pt (LV_f flσ_4 (by decide)) w0 (by omega) rfl (by omega) (by rw [hq1]; exact hp q9) | exact OB_ln hσ_15 hs_s_9 (LV_tr hLw (LV_f flσ_15 (by decide))) w0 (by omega) rfl (by omega) hbw (by omega) (hc2 q9) (hc1 q9) (by omega) | exact OB_rg hσ_19 hs_s_9 (LV_tr hLw (LV_f flσ_19 (by decide))) w0 (by omega) rfl (by omega) hbw (hr q9) (by omega) | exact ⟨ho q9, by rw [FC_plans flσ_22 hs_s_9 (NS_0 _), hbw.2.1]; omega⟩))⟩
    · try simp (disch := omega) only [w32_of, w64_of, w8_of, decide_eq_true_eq, decide_eq_false_iff_not, Bool.not_eq_true, fB_has] at c8
      refine wp_bd (v_failB (σ := σ) (code_0 := 3) hσ (by (try dsimp only) <;> first | assumption | omega | ((try simp (disch := omega) only [w32_of, w64_of, w8_of]) <;> first | assumption | omega | (split <;> omega) | (refine And.intro ?_ ?_ <;> split <;> omega)) | omega)) ?_
      rintro ⟨x_26, σ_25⟩ - y49
      try dsimp only at y49 ⊢
      obtain ⟨hσ_25, flσ_25, hfl⟩ := y49
      have frσ_25 : FC [kB_at, kB_collections, kB_depth, kB_levelKind, kB_levelLeft, kB_number, kB_place, kB_wrong] [s_9] σ σ_25 := FC_le flσ_25 (by first | decide | (rcases hE with rfl | rfl | rfl <;> decide)) (by simp)
      have hkσ_25 : (σ_25 kB_shape 0).toNat = s_9 := by rw [FC_at frσ_25 (c := kB_shape) (by decide)]; exact hkσ
      try rw [hkσ_25]
      try simp (disch := omega) only [w32_of, w64_of, w8_of] at hfl
      have c50 := iiA_plans (s := s_9) hσ_25 (by first | assumption | decide | omega) 0
      have c51 := congrFun (FC_plans (t := s_9) flσ_25 (by first | assumption | decide | omega) (NS_0 _)) 0
      exact wp_some ⟨hσ_25, frσ_25, (fun q => absurd (q.symm.trans hfl) (by decide))⟩
theorem s_B_readShape {σ : SG} {needed_0 : Int} {s_9 : Nat} (hσ : II σ) (hs_s_9 : isS s_9) (hkσ : (σ kB_shape 0).toNat = s_9) (w0 : OB σ s_9 1) : wp_ (fB_readShape σ needed_0) (fun zz_ => II zz_.2 ∧ FC [kB_at, kB_collections, kB_depth, kB_levelKind, kB_levelLeft, kB_lowFirst, kB_number, kB_place, kB_wrong] [s_9] σ zz_.2 ∧ ((zz_.1 = true) → (OB zz_.2 s_9 0 ∧ σ (kA_plans s_9) 0 + 2 ≤ zz_.2 (kA_plans s_9) 0))) := by
  unfold fB_readShape
  have hpl := iiA_plans hσ hs_s_9 0
  try rw [hkσ]
  have c2 := ii_kB_length hσ 0
  have c3 := ii_kB_at hσ 0
  refine wp_if (fun c1 => ?_) (fun c1 => ?_)
  · try simp (disch := omega) only [w32_of, w64_of, w8_of, decide_eq_true_eq, decide_eq_false_iff_not, Bool.not_eq_true, fB_has] at c1
    refine wp_bd (P := fun rr_ => True) ?_ ?_
    · have c4 := w32_rng (σ kB_at 0)
      refine wp_rdI (by (try dsimp only) <;> first | assumption | omega | ((try simp (disch := omega) only [w32_of, w64_of, w8_of]) <;> first | assumption | omega | (split <;> omega) | (refine And.intro ?_ ?_ <;> split <;> omega)) | omega) (by (try dsimp only) <;> first | assumption | omega | ((try simp (disch := omega) only [w32_of, w64_of, w8_of]) <;> first | assumption | omega | (split <;> omega) | (refine And.intro ?_ ?_ <;> split <;> omega)) | omega) (fun x_99 e_x_99 => ?_)
      have b_x_99 : (-128) ≤ x_99 ∧ x_99 ≤ 127 := by rw [e_x_99]; exact ii_kQ_tape hσ _
      try simp (disch := omega) only [w32_of, w64_of, w8_of] at e_x_99
      have c5 := ii_kQ_tape hσ (σ kB_at 0)
      have c7 := w8_rng x_99
      have c8 := w32_rng (w8 x_99)
      refine wp_if (fun c6 => ?_) (fun c6 => ?_)
      · try simp (disch := omega) only [w32_of, w64_of, w8_of, decide_eq_true_eq, decide_eq_false_iff_not, Bool.not_eq_true] at c6
        refine wp_rdI (by (try dsimp only) <;> first | assumption | omega | ((try simp (disch := omega) only [w32_of, w64_of, w8_of]) <;> first | assumption | omega | (split <;> omega) | (refine And.intro ?_ ?_ <;> split <;> omega)) | omega) (by (try dsimp only) <;> first | assumption | omega | ((try simp (disch := omega) only [w32_of, w64_of, w8_of]) <;> first | assumption | omega | (split <;> omega) | (refine And.intro ?_ ?_ <;> split <;> omega)) | omega) (fun x_102 e_x_102 => ?_)
        have b_x_102 : (-128) ≤ x_102 ∧ x_102 ≤ 127 := by rw [e_x_102]; exact ii_kQ_tape hσ _
        try simp (disch := omega) only [w32_of, w64_of, w8_of] at e_x_102
        have c10 := w8_rng x_102
        have c11 := w32_rng (w8 x_102)
        refine wp_if (fun c9 => ?_) (fun c9 => ?_)
        · try simp (disch := omega) only [w32_of, w64_of, w8_of, decide_eq_true_eq, decide_eq_false_iff_not, Bool.not_eq_true] at c9
          exact wp_some trivial
        · try simp (disch := omega) only [w32_of, w64_of, w8_of, decide_eq_true_eq, decide_eq_false_iff_not, Bool.not_eq_true] at c9
          exact wp_some trivial
      · try simp (disch := omega) only [w32_of, w64_of, w8_of, decide_eq_true_eq, decide_eq_false_iff_not, Bool.not_eq_true] at c6
        exact wp_some trivial
    rintro b_108 _ -
    refine wp_if (fun c12 => ?_) (fun c12 => ?_)
    · try simp (disch := omega) only [w32_of, w64_of, w8_of, decide_eq_true_eq, decide_eq_false_iff_not, Bool.not_eq_true] at c12
      refine wp_bd (v_failB (σ := σ) (code_0 := 1) hσ (by (try dsimp only) <;> first | assumption | omega | ((try simp (disch := omega) only [w32_of, w64_of, w8_of]) <;> first | assumption | omega | (split <;> omega) | (refine And.intro ?_ ?_ <;> split <;> omega)) | omega)) ?_
      rintro ⟨x_111, σ_110⟩ - y13
      try dsimp only at y13 ⊢
      obtain ⟨hσ_110, flσ_110, hfl⟩ := y13
      have frσ_110 : FC [kB_at, kB_collections, kB_depth, kB_levelKind, kB_levelLeft, kB_lowFirst, kB_number, kB_place, kB_wrong] [s_9] σ σ_110 := FC_le flσ_110 (by first | decide | (rcases hE with rfl | rfl | rfl <;> decide)) (by simp)
      have hkσ_110 : (σ_110 kB_shape 0).toNat = s_9 := by rw [FC_at frσ_110 (c := kB_shape) (by decide)]; exact hkσ
      try rw [hkσ_110]
      try simp (disch := omega) only [w32_of, w64_of, w8_of] at hfl
      have c14 := iiA_plans (s := s_9) hσ (by first | assumption | decide | omega) 0
      have c15 := iiA_plans (s := s_9) hσ_110 (by first | assumption | decide | omega) 0
      have c16 := congrFun (FC_plans (t := s_9) flσ_110 (by first | assumption | decide | omega) (NS_0 _)) 0
      exact wp_some ⟨hσ_110, frσ_110, (fun q => absurd (q.symm.trans hfl) (by decide))⟩
    · try simp (disch := omega) only [w32_of, w64_of, w8_of, decide_eq_true_eq, decide_eq_false_iff_not, Bool.not_eq_true] at c12
      refine wp_bd (P := fun rr_ => True) ?_ ?_
      · have c17 := w32_rng (σ kB_at 0)
        refine wp_rdI (by (try dsimp only) <;> first | assumption | omega | ((try simp (disch := omega) only [w32_of, w64_of, w8_of]) <;> first | assumption | omega | (split <;> omega) | (refine And.intro ?_ ?_ <;> split <;> omega)) | omega) (by (try dsimp only) <;> first | assumption | omega | ((try simp (disch := omega) only [w32_of, w64_of, w8_of]) <;> first | assumption | omega | (split <;> omega) | (refine And.intro ?_ ?_ <;> split <;> omega)) | omega) (fun x_112 e_x_112 => ?_)
        have b_x_112 : (-128) ≤ x_112 ∧ x_112 ≤ 127 := by rw [e_x_112]; exact ii_kQ_tape hσ _
        try simp (disch := omega) only [w32_of, w64_of, w8_of] at e_x_112
        have c18 := ii_kQ_tape hσ (σ kB_at 0)
        have c20 := w8_rng x_112
        have c21 := w32_rng (w8 x_112)
        refine wp_if (fun c19 => ?_) (fun c19 => ?_)
        · try simp (disch := omega) only [w32_of, w64_of, w8_of, decide_eq_true_eq, decide_eq_false_iff_not, Bool.not_eq_true] at c19
          exact wp_some trivial
        · try simp (disch := omega) only [w32_of, w64_of, w8_of, decide_eq_true_eq, decide_eq_false_iff_not, Bool.not_eq_true] at c19
          exact wp_some trivial
      rintro x_117 _ -
      have c22 := bz_bd x_117
      try simp (disch := omega) only [w32_of, w64_of, w8_of] at c22
      refine wp_wfI hσ b_kB_lowFirst (by (try dsimp only) <;> first | assumption | omega | ((try simp (disch := omega) only [w32_of, w64_of, w8_of]) <;> first | assumption | omega | (split <;> omega) | (refine And.intro ?_ ?_ <;> split <;> omega)) | omega) (fun σ_118 hσ_118 eσ_118 => ?_)
      try simp (disch := omega) only [w32_of, w64_of, w8_of] at eσ_118
      have flσ_118 := FC_sg eσ_118 (by first | decide | (rcases hE with rfl | rfl | rfl <;> decide))
      have frσ_118 : FC [kB_at, kB_collections, kB_depth, kB_levelKind, kB_levelLeft, kB_lowFirst, kB_number, kB_place, kB_wrong] [s_9] σ σ_118 := FC_le flσ_118 (by first | decide | (rcases hE with rfl | rfl | rfl <;> decide)) (by simp)
      have hkσ_118 : (σ_118 kB_shape 0).toNat = s_9 := by rw [FC_at frσ_118 (c := kB_shape) (by decide)]; exact hkσ
      try rw [hkσ_118]
      have c23 := ii_kB_at hσ_118 0
      have c24 := FC_at flσ_118 (c := kB_at) (by first | decide | (rcases hE with rfl | rfl | rfl <;> decide)) 0
      refine wp_wfI hσ_118 b_kB_at (by (try dsimp only) <;> first | assumption | omega | ((try simp (disch := omega) only [w32_of, w64_of, w8_of]) <;> first | assumption | omega | (split <;> omega) | (refine And.intro ?_ ?_ <;> split <;> omega)) | omega) (fun σ_119 hσ_119 eσ_119 => ?_)
      try simp (disch := omega) only [w32_of, w64_of, w8_of] at eσ_119
      have flσ_119 := FC_sg eσ_119 (by first | decide | (rcases hE with rfl | rfl | rfl <;> decide))
      have frσ_119 : FC [kB_at, kB_collections, kB_depth, kB_levelKind, kB_levelLeft, kB_lowFirst, kB_number, kB_place, kB_wrong] [s_9] σ σ_119 := FC_tr frσ_118 flσ_119 (by first | decide | (rcases hE with rfl | rfl | rfl <;> decide)) (by first | decide | (rcases hE with rfl | rfl | rfl <;> decide)) (by simp) (by simp)
      have hkσ_119 : (σ_119 kB_shape 0).toNat = s_9 := by rw [FC_at frσ_119 (c := kB_shape) (by decide)]; exact hkσ
      try rw [hkσ_119]
      have c26 := ii_kB_length hσ_119 0
      have c27 := FC_at flσ_119 (c := kB_length) (by first | decide | (rcases hE with rfl | rfl | rfl <;> decide)) 0
      have c28 := ii_kB_length hσ_118 0
      have c29 := FC_at flσ_118 (c := kB_length) (by first | decide | (rcases hE with rfl | rfl | rfl <;> decide)) 0
      have c30 := ii_kB_at hσ_119 0
      have c31 := sg_val eσ_119
      refine wp_if (fun c25 => ?_) (fun c25 => ?_)
      · try simp (disch := omega) only [w32_of, w64_of, w8_of, decide_eq_true_eq, decide_eq_false_iff_not, Bool.not_eq_true, fB_has] at c25
        refine wp_bd (v_numberAt (σ := σ_119) (from_0 := (σ_119 kB_at 0)) (bytes_0 := 4) hσ_119 (by (try dsimp only) <;> first | assumption | omega | ((try simp (disch := omega) only [w32_of, w64_of, w8_of]) <;> first | assumption | omega | (split <;> omega) | (refine And.intro ?_ ?_ <;> split <;> omega)) | omega) (by (try dsimp only) <;> first | assumption | omega | ((try simp (disch := omega) only [w32_of, w64_of, w8_of]) <;> first | assumption | omega | (split <;> omega) | (refine And.intro ?_ ?_ <;> split <;> omega)) | omega)) ?_
        rintro x_122 - ⟨g32, g33⟩
        try simp (disch := omega) only [w32_of, w64_of, w8_of] at g32
        try simp (disch := omega) only [w32_of, w64_of, w8_of] at g33
        have c35 := q_lan_bd x_122 (m := 536870911) (by decide) (by decide)
        try simp (disch := omega) only [w32_of, w64_of, w8_of] at c35
        have c36 := w32_rng (q_lan x_122 536870911)
        have c37 := q_irm_bd (q_lan x_122 536870911) 1000 (by (try dsimp only) <;> first | assumption | omega | ((try simp (disch := omega) only [w32_of, w64_of, w8_of]) <;> first | assumption | omega | (split <;> omega) | (refine And.intro ?_ ?_ <;> split <;> omega)) | omega)
        try simp (disch := omega) only [w32_of, w64_of, w8_of] at c37
        have c38 := w32_rng (q_irm (q_lan x_122 536870911) 1000)
        have c39 := w32_rng needed_0
        refine wp_if (fun c34 => ?_) (fun c34 => ?_)
        · try simp (disch := omega) only [w32_of, w64_of, w8_of, decide_eq_true_eq, decide_eq_false_iff_not, Bool.not_eq_true] at c34
          refine wp_bd (v_failB (σ := σ_119) (code_0 := 2) hσ_119 (by (try dsimp only) <;> first | assumption | omega | ((try simp (disch := omega) only [w32_of, w64_of, w8_of]) <;> first | assumption | omega | (split <;> omega) | (refine And.intro ?_ ?_ <;> split <;> omega)) | omega)) ?_
          rintro ⟨x_125, σ_124⟩ - y40
          try dsimp only at y40 ⊢
          obtain ⟨hσ_124, flσ_124, hfl⟩ := y40
          have frσ_124 : FC [kB_at, kB_collections, kB_depth, kB_levelKind, kB_levelLeft, kB_lowFirst, kB_number, kB_place, kB_wrong] [s_9] σ σ_124 := FC_tr frσ_119 flσ_124 (by first | decide | (rcases hE with rfl | rfl | rfl <;> decide)) (by first | decide | (rcases hE with rfl | rfl | rfl <;> decide)) (by simp) (by simp)
          have hkσ_124 : (σ_124 kB_shape 0).toNat = s_9 := by rw [FC_at frσ_124 (c := kB_shape) (by decide)]; exact hkσ
          try rw [hkσ_124]
          try simp (disch := omega) only [w32_of, w64_of, w8_of] at hfl
          have c41 := iiA_plans (s := s_9) hσ (by first | assumption | decide | omega) 0
          have c42 := iiA_plans (s := s_9) hσ_124 (by first | assumption | decide | omega) 0
          have c43 := congrFun (FC_plans (t := s_9) flσ_124 (by first | assumption | decide | omega) (NS_0 _)) 0
          have c44 := iiA_plans (s := s_9) hσ_119 (by first | assumption | decide | omega) 0
          have c45 := congrFun (FC_plans (t := s_9) flσ_119 (by first | assumption | decide | omega) (NS_0 _)) 0
          have c46 := iiA_plans (s := s_9) hσ_118 (by first | assumption | decide | omega) 0
          have c47 := congrFun (FC_plans (t := s_9) flσ_118 (by first | assumption | decide | omega) (NS_0 _)) 0
          exact wp_some ⟨hσ_124, frσ_124, (fun q => absurd (q.symm.trans hfl) (by decide))⟩
        · try simp (disch := omega) only [w32_of, w64_of, w8_of, decide_eq_true_eq, decide_eq_false_iff_not, Bool.not_eq_true] at c34
          have c49 := q_lus_rng x_122 30
          have c50 := w64_rng (q_lus x_122 30)
          refine wp_if (fun c48 => ?_) (fun c48 => ?_)
          · try simp (disch := omega) only [w32_of, w64_of, w8_of, decide_eq_true_eq, decide_eq_false_iff_not, Bool.not_eq_true] at c48
            refine wp_bd (v_failB (σ := σ_119) (code_0 := 9) hσ_119 (by (try dsimp only) <;> first | assumption | omega | ((try simp (disch := omega) only [w32_of, w64_of, w8_of]) <;> first | assumption | omega | (split <;> omega) | (refine And.intro ?_ ?_ <;> split <;> omega)) | omega)) ?_
            rintro ⟨x_128, σ_127⟩ - y51
            try dsimp only at y51 ⊢
            obtain ⟨hσ_127, flσ_127, hfl⟩ := y51
            have frσ_127 : FC [kB_at, kB_collections, kB_depth, kB_levelKind, kB_levelLeft, kB_lowFirst, kB_number, kB_place, kB_wrong] [s_9] σ σ_127 := FC_tr frσ_119 flσ_127 (by first | decide | (rcases hE with rfl | rfl | rfl <;> decide)) (by first | decide | (rcases hE with rfl | rfl | rfl <;> decide)) (by simp) (by simp)
            have hkσ_127 : (σ_127 kB_shape 0).toNat = s_9 := by rw [FC_at frσ_127 (c := kB_shape) (by decide)]; exact hkσ
            try rw [hkσ_127]
            try simp (disch := omega) only [w32_of, w64_of, w8_of] at hfl
            have c52 := iiA_plans (s := s_9) hσ (by first | assumption | decide | omega) 0
            have c53 := iiA_plans (s := s_9) hσ_127 (by first | assumption | decide | omega) 0
            have c54 := congrFun (FC_plans (t := s_9) flσ_127 (by first | assumption | decide | omega) (NS_0 _)) 0
            have c55 := iiA_plans (s := s_9) hσ_119 (by first | assumption | decide | omega) 0
            have c56 := congrFun (FC_plans (t := s_9) flσ_119 (by first | assumption | decide | omega) (NS_0 _)) 0
            have c57 := iiA_plans (s := s_9) hσ_118 (by first | assumption | decide | omega) 0
            have c58 := congrFun (FC_plans (t := s_9) flσ_118 (by first | assumption | decide | omega) (NS_0 _)) 0
            exact wp_some ⟨hσ_127, frσ_127, (fun q => absurd (q.symm.trans hfl) (by decide))⟩
          · try simp (disch := omega) only [w32_of, w64_of, w8_of, decide_eq_true_eq, decide_eq_false_iff_not, Bool.not_eq_true] at c48
            have c60 := FC_at flσ_119 (c := kB_collections) (by first | decide | (rcases hE with rfl | rfl | rfl <;> decide)) 0
            have c61 := FC_at flσ_118 (c := kB_collections) (by first | decide | (rcases hE with rfl | rfl | rfl <;> decide)) 0
            have c62 := w32_rng (σ_119 kB_collections 0)
            refine wp_if (fun c59 => ?_) (fun c59 => ?_)
            · try simp (disch := omega) only [w32_of, w64_of, w8_of, decide_eq_true_eq, decide_eq_false_iff_not, Bool.not_eq_true] at c59
              refine wp_bd (v_failB (σ := σ_119) (code_0 := 6) hσ_119 (by (try dsimp only) <;> first | assumption | omega | ((try simp (disch := omega) only [w32_of, w64_of, w8_of]) <;> first | assumption | omega | (split <;> omega) | (refine And.intro ?_ ?_ <;> split <;> omega)) | omega)) ?_
              rintro ⟨x_131, σ_130⟩ - y63
              try dsimp only at y63 ⊢
              obtain ⟨hσ_130, flσ_130, hfl⟩ := y63
              have frσ_130 : FC [kB_at, kB_collections, kB_depth, kB_levelKind, kB_levelLeft, kB_lowFirst, kB_number, kB_place, kB_wrong] [s_9] σ σ_130 := FC_tr frσ_119 flσ_130 (by first | decide | (rcases hE with rfl | rfl | rfl <;> decide)) (by first | decide | (rcases hE with rfl | rfl | rfl <;> decide)) (by simp) (by simp)
              have hkσ_130 : (σ_130 kB_shape 0).toNat = s_9 := by rw [FC_at frσ_130 (c := kB_shape) (by decide)]; exact hkσ
              try rw [hkσ_130]
              try simp (disch := omega) only [w32_of, w64_of, w8_of] at hfl
              have c64 := iiA_plans (s := s_9) hσ (by first | assumption | decide | omega) 0
              have c65 := iiA_plans (s := s_9) hσ_130 (by first | assumption | decide | omega) 0
              have c66 := congrFun (FC_plans (t := s_9) flσ_130 (by first | assumption | decide | omega) (NS_0 _)) 0
              have c67 := iiA_plans (s := s_9) hσ_119 (by first | assumption | decide | omega) 0
              have c68 := congrFun (FC_plans (t := s_9) flσ_119 (by first | assumption | decide | omega) (NS_0 _)) 0
              have c69 := iiA_plans (s := s_9) hσ_118 (by first | assumption | decide | omega) 0
              have c70 := congrFun (FC_plans (t := s_9) flσ_118 (by first | assumption | decide | omega) (NS_0 _)) 0
              exact wp_some ⟨hσ_130, frσ_130, (fun q => absurd (q.symm.trans hfl) (by decide))⟩
            · try simp (disch := omega) only [w32_of, w64_of, w8_of, decide_eq_true_eq, decide_eq_false_iff_not, Bool.not_eq_true] at c59
              refine wp_wfI hσ_119 b_kB_at (by (try dsimp only) <;> first | assumption | omega | ((try simp (disch := omega) only [w32_of, w64_of, w8_of]) <;> first | assumption | omega | (split <;> omega) | (refine And.intro ?_ ?_ <;> split <;> omega)) | omega) (fun σ_132 hσ_132 eσ_132 => ?_)
              try simp (disch := omega) only [w32_of, w64_of, w8_of] at eσ_132
              have flσ_132 := FC_sg eσ_132 (by first | decide | (rcases hE with rfl | rfl | rfl <;> decide))
              have frσ_132 : FC [kB_at, kB_collections, kB_depth, kB_levelKind, kB_levelLeft, kB_lowFirst, kB_number, kB_place, kB_wrong] [s_9] σ σ_132 := FC_tr frσ_119 flσ_132 (by first | decide | (rcases hE with rfl | rfl | rfl <;> decide)) (by first | decide | (rcases hE with rfl | rfl | rfl <;> decide)) (by simp) (by simp)
              have hkσ_132 : (σ_132 kB_shape 0).toNat = s_9 := by rw [FC_at frσ_132 (c := kB_shape) (by decide)]; exact hkσ
              try rw [hkσ_132]
              refine wp_bx (P := fun rr_ => II rr_ ∧ FC [kB_at, kB_collections, kB_depth, kB_levelKind, kB_levelLeft, kB_lowFirst, kB_number, kB_place, kB_wrong] [s_9] σ rr_ ∧ (OB rr_ s_9 1) ∧ (rr_ (kA_plans s_9) 0 = σ (kA_plans s_9) 0)) ?_ ?_
              · have c72 := q_lan_bd x_122 (m := 536870912) (by decide) (by decide)
                try simp (disch := omega) only [w32_of, w64_of, w8_of] at c72
                have c73 := w64_rng (q_lan x_122 536870912)
                refine wp_if (fun c71 => ?_) (fun c71 => ?_)
                · try simp (disch := omega) only [w32_of, w64_of, w8_of, decide_eq_true_eq, decide_eq_false_iff_not, Bool.not_eq_true] at c71
                  have c75 := ii_kB_length hσ_132 0
                  have c76 := FC_at flσ_132 (c := kB_length) (by first | decide | (rcases hE with rfl | rfl | rfl <;> decide)) 0
                  have c77 := ii_kB_at hσ_132 0
                  have c78 := sg_val eσ_132
                  refine wp_if (fun c74 => ?_) (fun c74 => ?_)
                  · try simp (disch := omega) only [w32_of, w64_of, w8_of, decide_eq_true_eq, decide_eq_false_iff_not, Bool.not_eq_true, fB_has] at c74
                    refine wp_wfI hσ_132 b_kB_at (by (try dsimp only) <;> first | assumption | omega | ((try simp (disch := omega) only [w32_of, w64_of, w8_of]) <;> first | assumption | omega | (split <;> omega) | (refine And.intro ?_ ?_ <;> split <;> omega)) | omega) (fun σ_139 hσ_139 eσ_139 => ?_)
                    try simp (disch := omega) only [w32_of, w64_of, w8_of] at eσ_139
                    have flσ_139 := FC_sg eσ_139 (by first | decide | (rcases hE with rfl | rfl | rfl <;> decide))
                    have frσ_139 : FC [kB_at, kB_collections, kB_depth, kB_levelKind, kB_levelLeft, kB_lowFirst, kB_number, kB_place, kB_wrong] [s_9] σ σ_139 := FC_tr frσ_132 flσ_139 (by first | decide | (rcases hE with rfl | rfl | rfl <;> decide)) (by first | decide | (rcases hE with rfl | rfl | rfl <;> decide)) (by simp) (by simp)
                    have hkσ_139 : (σ_139 kB_shape 0).toNat = s_9 := by rw [FC_at frσ_139 (c := kB_shape) (by decide)]; exact hkσ
                    try rw [hkσ_139]
                    have c79 := iiA_plans (s := s_9) hσ_139 (by first | assumption | decide | omega) 0
                    have c80 := congrFun (FC_plans (t := s_9) flσ_139 (by first | assumption | decide | omega) (NS_0 _)) 0
                    have c81 := iiA_plans (s := s_9) hσ_132 (by first | assumption | decide | omega) 0
                    have c82 := congrFun (FC_plans (t := s_9) flσ_132 (by first | assumption | decide | omega) (NS_0 _)) 0
                    have c83 := iiA_plans (s := s_9) hσ_119 (by first | assumption | decide | omega) 0
                    have c84 := congrFun (FC_plans (t := s_9) flσ_119 (by first | assumption | decide | omega) (NS_0 _)) 0
                    have c85 := iiA_plans (s := s_9) hσ_118 (by first | assumption | decide | omega) 0
                    have c86 := congrFun (FC_plans (t := s_9) flσ_118 (by first | assumption | decide | omega) (NS_0 _)) 0
                    have c87 := iiA_plans (s := s_9) hσ (by first | assumption | decide | omega) 0
                    exact wp_some (x_inl ⟨hσ_139, frσ_139, (by (try dsimp only) <;> (first | exact OB_f flσ_139 hs_s_9 (by decide) (OB_f flσ_132 hs_s_9 (by decide) (OB_f flσ_119 hs_s_9 (by decide) (OB_f flσ_118 hs_s_9 (by decide) w0))) | exact OB_f flσ_132 hs_s_9 (by decide) (OB_f flσ_119 hs_s_9 (by decide) (OB_f flσ_118 hs_s_9 (by decide) w0)))), (by (try dsimp only) <;> first | assumption | omega | ((try simp (disch := omega) only [w32_of, w64_of, w8_of]) <;> first | assumption | omega | (split <;> omega) | (refine And.intro ?_ ?_ <;> split <;> omega)) | omega)⟩)
                  · try simp (disch := omega) only [w32_of, w64_of, w8_of, decide_eq_true_eq, decide_eq_false_iff_not, Bool.not_eq_true, fB_has] at c74
                    refine wp_bd (v_failB (σ := σ_132) (code_0 := 3) hσ_132 (by (try dsimp only) <;> first | assumption | omega | ((try simp (disch := omega) only [w32_of, w64_of, w8_of]) <;> first | assumption | omega | (split <;> omega) | (refine And.intro ?_ ?_ <;> split <;> omega)) | omega)) ?_
                    rintro ⟨x_143, σ_142⟩ - y88
                    try dsimp only at y88 ⊢
                    obtain ⟨hσ_142, flσ_142, hfl⟩ := y88
                    have frσ_142 : FC [kB_at, kB_collections, kB_depth, kB_levelKind, kB_levelLeft, kB_lowFirst, kB_number, kB_place, kB_wrong] [s_9] σ σ_142 := FC_tr frσ_132 flσ_142 (by first | decide | (rcases hE with rfl | rfl | rfl <;> decide)) (by first | decide | (rcases hE with rfl | rfl | rfl <;> decide)) (by simp) (by simp)
                    have hkσ_142 : (σ_142 kB_shape 0).toNat = s_9 := by rw [FC_at frσ_142 (c := kB_shape) (by decide)]; exact hkσ
                    try rw [hkσ_142]
                    try simp (disch := omega) only [w32_of, w64_of, w8_of] at hfl
                    have c89 := iiA_plans (s := s_9) hσ (by first | assumption | decide | omega) 0
                    have c90 := iiA_plans (s := s_9) hσ_142 (by first | assumption | decide | omega) 0
                    have c91 := congrFun (FC_plans (t := s_9) flσ_142 (by first | assumption | decide | omega) (NS_0 _)) 0
                    have c92 := iiA_plans (s := s_9) hσ_132 (by first | assumption | decide | omega) 0
                    have c93 := congrFun (FC_plans (t := s_9) flσ_132 (by first | assumption | decide | omega) (NS_0 _)) 0
                    have c94 := iiA_plans (s := s_9) hσ_119 (by first | assumption | decide | omega) 0
                    have c95 := congrFun (FC_plans (t := s_9) flσ_119 (by first | assumption | decide | omega) (NS_0 _)) 0
                    have c96 := iiA_plans (s := s_9) hσ_118 (by first | assumption | decide | omega) 0
                    have c97 := congrFun (FC_plans (t := s_9) flσ_118 (by first | assumption | decide | omega) (NS_0 _)) 0
                    exact wp_some (x_inr ⟨hσ_142, frσ_142, (fun q => absurd (q.symm.trans hfl) (by decide))⟩)
                · try simp (disch := omega) only [w32_of, w64_of, w8_of, decide_eq_true_eq, decide_eq_false_iff_not, Bool.not_eq_true] at c71
                  have c98 := iiA_plans (s := s_9) hσ_132 (by first | assumption | decide | omega) 0
                  have c99 := congrFun (FC_plans (t := s_9) flσ_132 (by first | assumption | decide | omega) (NS_0 _)) 0
                  have c100 := iiA_plans (s := s_9) hσ_119 (by first | assumption | decide | omega) 0
                  have c101 := congrFun (FC_plans (t := s_9) flσ_119 (by first | assumption | decide | omega) (NS_0 _)) 0
                  have c102 := iiA_plans (s := s_9) hσ_118 (by first | assumption | decide | omega) 0
                  have c103 := congrFun (FC_plans (t := s_9) flσ_118 (by first | assumption | decide | omega) (NS_0 _)) 0
                  have c104 := iiA_plans (s := s_9) hσ (by first | assumption | decide | omega) 0
                  exact wp_some (x_inl ⟨hσ_132, frσ_132, (by (try dsimp only) <;> (first | exact OB_f flσ_139 hs_s_9 (by decide) (OB_f flσ_132 hs_s_9 (by decide) (OB_f flσ_119 hs_s_9 (by decide) (OB_f flσ_118 hs_s_9 (by decide) w0))) | exact OB_f flσ_132 hs_s_9 (by decide) (OB_f flσ_119 hs_s_9 (by decide) (OB_f flσ_118 hs_s_9 (by decide) w0)))), (by (try dsimp only) <;> first | assumption | omega | ((try simp (disch := omega) only [w32_of, w64_of, w8_of]) <;> first | assumption | omega | (split <;> omega) | (refine And.intro ?_ ?_ <;> split <;> omega)) | omega)⟩)
              rintro σ_145 ⟨hσ_145, frσ_145, ob145, g105⟩
              have hkσ_145 : (σ_145 kB_shape 0).toNat = s_9 := by rw [FC_at frσ_145 (c := kB_shape) (by decide)]; exact hkσ
              try rw [hkσ_145]
              refine wp_bd (P := fun rr_ => II rr_.2 ∧ FC [kB_at, kB_collections, kB_depth, kB_levelKind, kB_levelLeft, kB_lowFirst, kB_number, kB_place, kB_wrong] [s_9] σ rr_.2 ∧ ((rr_.1 = true) → (OB rr_.2 s_9 0 ∧ σ (kA_plans s_9) 0 + 2 ≤ rr_.2 (kA_plans s_9) 0))) ?_ ?_
              · refine wp_ck (by first | assumption | decide | omega) ?_
                refine wp_bd (v_addShape (σ := σ_145) (this_0 := s_9) (kind_0 := (q_irm (q_lan x_122 536870911) 1000)) (parts_0 := 0) hσ_145 (by first | assumption | decide | omega)) ?_
                rintro ⟨x_149, σ_148⟩ - y106
                try dsimp only at y106 ⊢
                obtain ⟨hσ_148, flσ_148, ha1, ha2, ha3, ha4, ha5, ha6⟩ := y106
                have frσ_148 : FC [kB_at, kB_collections, kB_depth, kB_levelKind, kB_levelLeft, kB_lowFirst, kB_number, kB_place, kB_wrong] [s_9] σ σ_148 := FC_tr frσ_145 flσ_148 (by first | decide | (rcases hE with rfl | rfl | rfl <;> decide)) (by first | decide | (rcases hE with rfl | rfl | rfl <;> decide)) (by simp) (by simp)
                have hkσ_148 : (σ_148 kB_shape 0).toNat = s_9 := by rw [FC_at frσ_148 (c := kB_shape) (by decide)]; exact hkσ
                try rw [hkσ_148]
                have c107 := iiA_plans (s := s_9) hσ_145 (by first | assumption | decide | omega) 0
                try simp (disch := omega) only [w32_of, w64_of, w8_of] at ha1
                try simp (disch := omega) only [w32_of, w64_of, w8_of] at ha2
                have c108 := iiA_plans (s := s_9) hσ_148 (by first | assumption | decide | omega) 0
                try simp (disch := omega) only [w32_of, w64_of, w8_of] at ha3
                try simp (disch := omega) only [w32_of, w64_of, w8_of] at ha4
                try simp (disch := omega) only [w32_of, w64_of, w8_of] at ha5
                try simp (disch := omega) only [w32_of, w64_of, w8_of] at ha6
                refine wp_if (fun c109 => ?_) (fun c109 => ?_)
                · have k110 := ha1.mp c109
                  try simp (disch := omega) only [w32_of, w64_of, w8_of] at k110
                  have k112 := ha3 c109
                  try simp (disch := omega) only [w32_of, w64_of, w8_of] at k112
                  try simp (disch := omega) only [w32_of, w64_of, w8_of, decide_eq_true_eq, decide_eq_false_iff_not, Bool.not_eq_true] at c109
                  obtain ⟨z1, z2, z3⟩ := OB_add ob145 flσ_148 (ha3 (by assumption)) ha4
                  have z4 := (ha3 (by assumption)).1
                  have z5 := iiA_plans hσ_145 hs_s_9 0
                  have c113 := ii_kB_shape hσ_148 0
                  have c114 := FC_at flσ_148 (c := kB_shape) (by first | decide | (rcases hE with rfl | rfl | rfl <;> decide)) 0
                  have c115 := ii_kB_shape hσ_145 0
                  have c116 := FC_at frσ_145 (c := kB_shape) (by first | decide | (rcases hE with rfl | rfl | rfl <;> decide)) 0
                  have c117 := ii_kB_shape hσ 0
                  have c118 := iiA_points (s := s_9) hσ_148 (by first | assumption | decide | omega) 0
                  refine wp_bd (s_B_readBody (σ := σ_148) (kind_0 := (q_irm (q_lan x_122 536870911) 1000)) hσ_148 (by (try dsimp only) <;> first | assumption | omega | ((try simp (disch := omega) only [w32_of, w64_of, w8_of]) <;> first | assumption | omega | (split <;> omega) | (refine And.intro ?_ ?_ <;> split <;> omega)) | omega) (by first | assumption | decide | omega) (by (try dsimp only) <;> first | assumption | omega | ((try simp (disch := omega) only [w32_of, w64_of, w8_of]) <;> first | assumption | omega | (split <;> omega) | (refine And.intro ?_ ?_ <;> split <;> omega)) | omega) (by exact z1) (by exact z2) (by exact z3) (by (try dsimp only) <;> first | assumption | omega | ((try simp (disch := omega) only [w32_of, w64_of, w8_of]) <;> first | assumption | omega | (split <;> omega) | (refine And.intro ?_ ?_ <;> split <;> omega)) | omega)) ?_
                  rintro ⟨x_153, σ_152⟩ - y119
                  try dsimp only at y119 ⊢
                  obtain ⟨hσ_152, flσ_152, hb⟩ := y119
                  have frσ_152 : FC [kB_at, kB_collections, kB_depth, kB_levelKind, kB_levelLeft, kB_lowFirst, kB_number, kB_place, kB_wrong] [s_9] σ σ_152 := FC_tr frσ_148 flσ_152 (by first | decide | (rcases hE with rfl | rfl | rfl <;> decide)) (by first | decide | (rcases hE with rfl | rfl | rfl <;> decide)) (by simp) (by simp)
                  have hkσ_152 : (σ_152 kB_shape 0).toNat = s_9 := by rw [FC_at frσ_152 (c := kB_shape) (by decide)]; exact hkσ
                  try rw [hkσ_152]
                  have c120 := iiA_plans (s := s_9) hσ_152 (by first | assumption | decide | omega) 0
                  try simp (disch := omega) only [w32_of, w64_of, w8_of] at hb
                  have c121 := iiA_plans (s := s_9) hσ (by first | assumption | decide | omega) 0
                  exact wp_some ⟨hσ_152, frσ_152, (by (try dsimp only) <;> (intro q9; first | (rw [hfl] at q9; exact absurd q9 (by decide)) | exact ⟨(hb q9).1, by have := (hb q9).2; have := (ha3 (by assumption)).1; omega⟩))⟩
                · have k122 := fun q => c109 (ha1.mpr q)
                  try simp (disch := omega) only [w32_of, w64_of, w8_of] at k122
                  have k123 := ha2 (Bool.eq_false_iff.mpr c109)
                  try simp (disch := omega) only [w32_of, w64_of, w8_of] at k123
                  try simp (disch := omega) only [w32_of, w64_of, w8_of, decide_eq_true_eq, decide_eq_false_iff_not, Bool.not_eq_true] at c109
                  refine wp_bd (v_failB (σ := σ_148) (code_0 := 7) hσ_148 (by (try dsimp only) <;> first | assumption | omega | ((try simp (disch := omega) only [w32_of, w64_of, w8_of]) <;> first | assumption | omega | (split <;> omega) | (refine And.intro ?_ ?_ <;> split <;> omega)) | omega)) ?_
                  rintro ⟨x_157, σ_156⟩ - y125
                  try dsimp only at y125 ⊢
                  obtain ⟨hσ_156, flσ_156, hfl⟩ := y125
                  have frσ_156 : FC [kB_at, kB_collections, kB_depth, kB_levelKind, kB_levelLeft, kB_lowFirst, kB_number, kB_place, kB_wrong] [s_9] σ σ_156 := FC_tr frσ_148 flσ_156 (by first | decide | (rcases hE with rfl | rfl | rfl <;> decide)) (by first | decide | (rcases hE with rfl | rfl | rfl <;> decide)) (by simp) (by simp)
                  have hkσ_156 : (σ_156 kB_shape 0).toNat = s_9 := by rw [FC_at frσ_156 (c := kB_shape) (by decide)]; exact hkσ
                  try rw [hkσ_156]
                  try simp (disch := omega) only [w32_of, w64_of, w8_of] at hfl
                  have c126 := iiA_plans (s := s_9) hσ (by first | assumption | decide | omega) 0
                  have c127 := iiA_plans (s := s_9) hσ_156 (by first | assumption | decide | omega) 0
                  have c128 := congrFun (FC_plans (t := s_9) flσ_156 (by first | assumption | decide | omega) (NS_0 _)) 0
                  exact wp_some ⟨hσ_156, frσ_156, (fun q => absurd (q.symm.trans hfl) (by decide))⟩
              rintro ⟨x_159, σ_160⟩ _ y129
              try dsimp only at y129 ⊢
              obtain ⟨hσ_160, frσ_160, hz⟩ := y129
              have hkσ_160 : (σ_160 kB_shape 0).toNat = s_9 := by rw [FC_at frσ_160 (c := kB_shape) (by decide)]; exact hkσ
              try rw [hkσ_160]
              have c130 := iiA_plans (s := s_9) hσ (by first | assumption | decide | omega) 0
              have c131 := iiA_plans (s := s_9) hσ_160 (by first | assumption | decide | omega) 0
              exact wp_some ⟨hσ_160, frσ_160, (by (try dsimp only) <;> (intro q9; first | (rw [hfl] at q9; exact absurd q9 (by decide)) | exact hz q9))⟩
      · try simp (disch := omega) only [w32_of, w64_of, w8_of, decide_eq_true_eq, decide_eq_false_iff_not, Bool.not_eq_true, fB_has] at c25
        refine wp_bd (v_failB (σ := σ_119) (code_0 := 3) hσ_119 (by (try dsimp only) <;> first | assumption | omega | ((try simp (disch := omega) only [w32_of, w64_of, w8_of]) <;> first | assumption | omega | (split <;> omega) | (refine And.intro ?_ ?_ <;> split <;> omega)) | omega)) ?_
        rintro ⟨x_195, σ_194⟩ - y132
        try dsimp only at y132 ⊢
        obtain ⟨hσ_194, flσ_194, hfl⟩ := y132
        have frσ_194 : FC [kB_at, kB_collections, kB_depth, kB_levelKind, kB_levelLeft, kB_lowFirst, kB_number, kB_place, kB_wrong] [s_9] σ σ_194 := FC_tr frσ_119 flσ_194 (by first | decide | (rcases hE with rfl | rfl | rfl <;> decide)) (by first | decide | (rcases hE with rfl | rfl | rfl <;> decide)) (by simp) (by simp)
        have hkσ_194 : (σ_194 kB_shape 0).toNat = s_9 := by rw [FC_at frσ_194 (c := kB_shape) (by decide)]; exact hkσ
        try rw [hkσ_194]
        try simp (disch := omega) only [w32_of, w64_of, w8_of] at hfl
        have c133 := iiA_plans (s := s_9) hσ (by first | assumption | decide | omega) 0
        have c134 := iiA_plans (s := s_9) hσ_194 (by first | assumption | decide | omega) 0
        have c135 := congrFun (FC_plans (t := s_9) flσ_194 (by first | assumption | decide | omega) (NS_0 _)) 0
        have c136 := iiA_plans (s := s_9) hσ_119 (by first | assumption | decide | omega) 0
        have c137 := congrFun (FC_plans (t := s_9) flσ_119 (by first | assumption | decide | omega) (NS_0 _)) 0
        have c138 := iiA_plans (s := s_9) hσ_118 (by first | assumption | decide | omega) 0
        have c139 := congrFun (FC_plans (t := s_9) flσ_118 (by first | assumption | decide | omega) (NS_0 _)) 0
        exact wp_some ⟨hσ_194, frσ_194, (fun q => absurd (q.symm.trans hfl) (by decide))⟩
  · try simp (disch := omega) only [w32_of, w64_of, w8_of, decide_eq_true_eq, decide_eq_false_iff_not, Bool.not_eq_true, fB_has] at c1
    refine wp_bd (v_failB (σ := σ) (code_0 := 3) hσ (by (try dsimp only) <;> first | assumption | omega | ((try simp (disch := omega) only [w32_of, w64_of, w8_of]) <;> first | assumption | omega | (split <;> omega) | (refine And.intro ?_ ?_ <;> split <;> omega)) | omega)) ?_
    rintro ⟨x_207, σ_206⟩ - y140
    try dsimp only at y140 ⊢
    obtain ⟨hσ_206, flσ_206, hfl⟩ := y140
    have frσ_206 : FC [kB_at, kB_collections, kB_depth, kB_levelKind, kB_levelLeft, kB_lowFirst, kB_number, kB_place, kB_wrong] [s_9] σ σ_206 := FC_le flσ_206 (by first | decide | (rcases hE with rfl | rfl | rfl <;> decide)) (by simp)
    have hkσ_206 : (σ_206 kB_shape 0).toNat = s_9 := by rw [FC_at frσ_206 (c := kB_shape) (by decide)]; exact hkσ
    try rw [hkσ_206]
    try simp (disch := omega) only [w32_of, w64_of, w8_of] at hfl
    have c141 := iiA_plans (s := s_9) hσ (by first | assumption | decide | omega) 0
    have c142 := iiA_plans (s := s_9) hσ_206 (by first | assumption | decide | omega) 0
    have c143 := congrFun (FC_plans (t := s_9) flσ_206 (by first | assumption | decide | omega) (NS_0 _)) 0
    exact wp_some ⟨hσ_206, frσ_206, (fun q => absurd (q.symm.trans hfl) (by decide))⟩
theorem s_B_isPartLeft {σ : SG} {s_9 : Nat} (hσ : II σ) (hs_s_9 : isS s_9) (hkσ : (σ kB_shape 0).toNat = s_9) (w0 : OB σ s_9 0) : wp_ (fB_isPartLeft σ) (fun zz_ => II zz_.2 ∧ FC [kB_collections, kB_depth] [] σ zz_.2 ∧ (OB zz_.2 s_9 0) ∧ ((zz_.1 = true) → (0 < zz_.2 kB_depth 0 ∧ 1 ≤ zz_.2 kB_levelLeft (zz_.2 kB_depth 0 - 1))) ∧ ((zz_.1 = false) → (zz_.2 kB_depth 0 = 0))) := by
  unfold fB_isPartLeft
  try rw [hkσ]
  refine wp_bd (P := fun rr_ => II rr_ ∧ FC [kB_collections, kB_depth] [] σ rr_ ∧ (OB rr_ s_9 0) ∧ (0 < rr_ kB_depth 0 → 1 ≤ rr_ kB_levelLeft (rr_ kB_depth 0 - 1))) ?_ ?_
  · refine wp_whl (fun ss_ => II ss_ ∧ FC [kB_collections, kB_depth] [] σ ss_ ∧ (OB ss_ s_9 0)) (fun ss_ => (ss_ kB_depth 0).toNat) ⟨hσ, (FC_refl _ _ _), (by (try dsimp only) <;> (first | exact w0 | exact OB_pop hσ_1 (FC_tr (ms := [kB_collections, kB_depth]) (ss := []) (FC_le flσ_21 (ms := [kB_collections, kB_depth]) (ss := []) (by decide) (by simp)) hf32 (by decide) (by decide) (by simp) (by simp)) hs_s_9 (by decide) ob1 (by omega) (by omega) (by omega)))⟩ ?_
    rintro σ_1 ⟨hσ_1, frσ_1, ob1⟩
    have hkσ_1 : (σ_1 kB_shape 0).toNat = s_9 := by rw [FC_at frσ_1 (c := kB_shape) (by decide)]; exact hkσ
    try rw [hkσ_1]
    have c2 := ii_kB_depth hσ_1 0
    have c3 := w32_rng (σ_1 kB_depth 0)
    refine wp_if (fun c1 => ?_) (fun c1 => ?_)
    · try simp (disch := omega) only [w32_of, w64_of, w8_of, decide_eq_true_eq, decide_eq_false_iff_not, Bool.not_eq_true] at c1
      have hlf := OB_left ob1 (by omega)
      have c4 := w32_rng ((σ_1 kB_depth 0) - 1)
      refine wp_rdI (by (try dsimp only) <;> first | assumption | omega | ((try simp (disch := omega) only [w32_of, w64_of, w8_of]) <;> first | assumption | omega | (split <;> omega) | (refine And.intro ?_ ?_ <;> split <;> omega)) | omega) (by (try dsimp only) <;> first | assumption | omega | ((try simp (disch := omega) only [w32_of, w64_of, w8_of]) <;> first | assumption | omega | (split <;> omega) | (refine And.intro ?_ ?_ <;> split <;> omega)) | omega) (fun x_18 e_x_18 => ?_)
      rw [FC_at frσ_1 (c := kB_levelLeft) (by first | decide | (rcases hE with rfl | rfl | rfl <;> decide))] at e_x_18
      try simp (disch := omega) only [w32_of, w64_of, w8_of] at e_x_18
      have c5 := FC_at frσ_1 (c := kB_levelLeft) (by first | decide | (rcases hE with rfl | rfl | rfl <;> decide)) ((σ_1 kB_depth 0) - 1)
      have c7 := w64_rng x_18
      refine wp_if (fun c6 => ?_) (fun c6 => ?_)
      · try simp (disch := omega) only [w32_of, w64_of, w8_of, decide_eq_true_eq, decide_eq_false_iff_not, Bool.not_eq_true] at c6
        refine wp_wfI hσ_1 b_kB_depth (by (try dsimp only) <;> first | assumption | omega | ((try simp (disch := omega) only [w32_of, w64_of, w8_of]) <;> first | assumption | omega | (split <;> omega) | (refine And.intro ?_ ?_ <;> split <;> omega)) | omega) (fun σ_21 hσ_21 eσ_21 => ?_)
        try simp (disch := omega) only [w32_of, w64_of, w8_of] at eσ_21
        have flσ_21 := FC_sg eσ_21 (by first | decide | (rcases hE with rfl | rfl | rfl <;> decide))
        have frσ_21 : FC [kB_collections, kB_depth] [] σ σ_21 := FC_tr frσ_1 flσ_21 (by first | decide | (rcases hE with rfl | rfl | rfl <;> decide)) (by first | decide | (rcases hE with rfl | rfl | rfl <;> decide)) (by simp) (by simp)
        have hkσ_21 : (σ_21 kB_shape 0).toNat = s_9 := by rw [FC_at frσ_21 (c := kB_shape) (by decide)]; exact hkσ
        try rw [hkσ_21]
        refine wp_bd (P := fun rr_ => II rr_ ∧ FC [kB_collections, kB_depth] [] σ rr_ ∧ (rr_ kB_depth 0 = σ_1 kB_depth 0 - 1) ∧ (FC [kB_collections] [] σ_21 rr_)) ?_ ?_
        · have c8 := ii_kB_depth hσ_21 0
          have c9 := sg_val eσ_21
          have c10 := w32_rng (σ_21 kB_depth 0)
          refine wp_rdI (by (try dsimp only) <;> first | assumption | omega | ((try simp (disch := omega) only [w32_of, w64_of, w8_of]) <;> first | assumption | omega | (split <;> omega) | (refine And.intro ?_ ?_ <;> split <;> omega)) | omega) (by (try dsimp only) <;> first | assumption | omega | ((try simp (disch := omega) only [w32_of, w64_of, w8_of]) <;> first | assumption | omega | (split <;> omega) | (refine And.intro ?_ ?_ <;> split <;> omega)) | omega) (fun x_26 e_x_26 => ?_)
          have b_x_26 : 0 ≤ x_26 ∧ x_26 ≤ 7 := by rw [e_x_26]; exact ii_kB_levelKind hσ_21 _
          rw [FC_at frσ_21 (c := kB_levelKind) (by first | decide | (rcases hE with rfl | rfl | rfl <;> decide))] at e_x_26
          try simp (disch := omega) only [w32_of, w64_of, w8_of] at e_x_26
          have c11 := ii_kB_levelKind hσ_21 (σ_21 kB_depth 0)
          have c12 := FC_at flσ_21 (c := kB_levelKind) (by first | decide | (rcases hE with rfl | rfl | rfl <;> decide)) (σ_21 kB_depth 0)
          have c13 := ii_kB_levelKind hσ_1 (σ_21 kB_depth 0)
          have c14 := FC_at frσ_1 (c := kB_levelKind) (by first | decide | (rcases hE with rfl | rfl | rfl <;> decide)) (σ_21 kB_depth 0)
          have c15 := ii_kB_levelKind hσ (σ_21 kB_depth 0)
          have c17 := w32_rng x_26
          refine wp_if (fun c16 => ?_) (fun c16 => ?_)
          · try simp (disch := omega) only [w32_of, w64_of, w8_of, decide_eq_true_eq, decide_eq_false_iff_not, Bool.not_eq_true] at c16
            have c18 := FC_at flσ_21 (c := kB_collections) (by first | decide | (rcases hE with rfl | rfl | rfl <;> decide)) 0
            refine wp_wfN hσ_21 b_kB_collections (fun σ_29 hσ_29 eσ_29 => ?_)
            try simp (disch := omega) only [w32_of, w64_of, w8_of] at eσ_29
            have flσ_29 := FC_sg eσ_29 (by first | decide | (rcases hE with rfl | rfl | rfl <;> decide))
            have frσ_29 : FC [kB_collections, kB_depth] [] σ σ_29 := FC_tr frσ_21 flσ_29 (by first | decide | (rcases hE with rfl | rfl | rfl <;> decide)) (by first | decide | (rcases hE with rfl | rfl | rfl <;> decide)) (by simp) (by simp)
            have hkσ_29 : (σ_29 kB_shape 0).toNat = s_9 := by rw [FC_at frσ_29 (c := kB_shape) (by decide)]; exact hkσ
            try rw [hkσ_29]
            have c19 := ii_kB_depth hσ_29 0
            have c20 := FC_at flσ_29 (c := kB_depth) (by first | decide | (rcases hE with rfl | rfl | rfl <;> decide)) 0
            exact wp_some ⟨hσ_29, frσ_29, (by (try dsimp only) <;> first | assumption | omega | ((try simp (disch := omega) only [w32_of, w64_of, w8_of]) <;> first | assumption | omega | (split <;> omega) | (refine And.intro ?_ ?_ <;> split <;> omega)) | omega), (by (try dsimp only) <;> (first | exact flσ_29 | exact FC_refl _ _ _))⟩
          · try simp (disch := omega) only [w32_of, w64_of, w8_of, decide_eq_true_eq, decide_eq_false_iff_not, Bool.not_eq_true] at c16
            exact wp_some ⟨hσ_21, frσ_21, (by (try dsimp only) <;> first | assumption | omega | ((try simp (disch := omega) only [w32_of, w64_of, w8_of]) <;> first | assumption | omega | (split <;> omega) | (refine And.intro ?_ ?_ <;> split <;> omega)) | omega), (by (try dsimp only) <;> (first | exact flσ_29 | exact FC_refl _ _ _))⟩
        rintro σ_32 _ ⟨hσ_32, frσ_32, g21, hf32⟩
        have hkσ_32 : (σ_32 kB_shape 0).toNat = s_9 := by rw [FC_at frσ_32 (c := kB_shape) (by decide)]; exact hkσ
        try rw [hkσ_32]
        have c22 := ii_kB_depth hσ_32 0
        exact wp_some (x_inl ⟨⟨hσ_32, frσ_32, (by (try dsimp only) <;> (first | exact w0 | exact OB_pop hσ_1 (FC_tr (ms := [kB_collections, kB_depth]) (ss := []) (FC_le flσ_21 (ms := [kB_collections, kB_depth]) (ss := []) (by decide) (by simp)) hf32 (by decide) (by decide) (by simp) (by simp)) hs_s_9 (by decide) ob1 (by omega) (by omega) (by omega)))⟩, (by (try dsimp only) <;> first | assumption | omega | ((try simp (disch := omega) only [w32_of, w64_of, w8_of]) <;> first | assumption | omega | (split <;> omega) | (refine And.intro ?_ ?_ <;> split <;> omega)) | omega)⟩)
      · try simp (disch := omega) only [w32_of, w64_of, w8_of, decide_eq_true_eq, decide_eq_false_iff_not, Bool.not_eq_true] at c6
        have c23 := FC_at frσ_1 (c := kB_levelLeft) (by first | decide | (rcases hE with rfl | rfl | rfl <;> decide)) (σ_1 kB_depth 0 - 1)
        exact wp_some (x_inr ⟨hσ_1, frσ_1, (by (try dsimp only) <;> (exact ob1)), (by (try dsimp only) <;> first | assumption | omega | ((try simp (disch := omega) only [w32_of, w64_of, w8_of]) <;> first | assumption | omega | (split <;> omega) | (refine And.intro ?_ ?_ <;> split <;> omega)) | omega)⟩)
    · try simp (disch := omega) only [w32_of, w64_of, w8_of, decide_eq_true_eq, decide_eq_false_iff_not, Bool.not_eq_true] at c1
      have c24 := FC_at frσ_1 (c := kB_levelLeft) (by first | decide | (rcases hE with rfl | rfl | rfl <;> decide)) (σ_1 kB_depth 0 - 1)
      exact wp_some (x_inr ⟨hσ_1, frσ_1, (by (try dsimp only) <;> (exact ob1)), (by (try dsimp only) <;> first | assumption | omega | ((try simp (disch := omega) only [w32_of, w64_of, w8_of]) <;> first | assumption | omega | (split <;> omega) | (refine And.intro ?_ ?_ <;> split <;> omega)) | omega)⟩)
  rintro σ_37 _ ⟨hσ_37, frσ_37, ob37, g25⟩
  have hkσ_37 : (σ_37 kB_shape 0).toNat = s_9 := by rw [FC_at frσ_37 (c := kB_shape) (by decide)]; exact hkσ
  try rw [hkσ_37]
  have c26 := ii_kB_depth hσ_37 0
  have c27 := FC_at frσ_37 (c := kB_levelLeft) (by first | decide | (rcases hE with rfl | rfl | rfl <;> decide)) (σ_37 kB_depth 0 - 1)
  exact wp_some ⟨hσ_37, frσ_37, (by (try dsimp only) <;> (exact ob37)), (by (try dsimp only) <;> (intro q9; have q8 := of_decide_eq_true q9; rw [w32_of (by omega) (by omega)] at q8; exact ⟨q8, by omega⟩)), (by (try dsimp only) <;> (intro q9; have q8 := of_decide_eq_false q9; rw [w32_of (by omega) (by omega)] at q8; omega))⟩
theorem s_B_readInto {σ : SG} {into_0 : Nat} {bytes_0 : Int} (hσ : II σ) (hs_into_0 : isS into_0) (w0 : 0 ≤ bytes_0 ∧ bytes_0 ≤ 65536) : wp_ (fB_readInto σ into_0 bytes_0) (fun zz_ => II zz_.2 ∧ FC [kB_at, kB_collections, kB_depth, kB_length, kB_levelKind, kB_levelLeft, kB_lowFirst, kB_number, kB_place, kB_shape, kB_wrong] [into_0] σ zz_.2 ∧ ((zz_.1 = true) → (SHa zz_.2 into_0))) := by
  unfold fB_readInto
  refine wp_wfI hσ b_kB_shape (by (try dsimp only) <;> first | assumption | omega | ((try simp (disch := omega) only [w32_of, w64_of, w8_of]) <;> first | assumption | omega | (split <;> omega) | (refine And.intro ?_ ?_ <;> split <;> omega)) | omega) (fun σ_1 hσ_1 eσ_1 => ?_)
  try simp (disch := omega) only [w32_of, w64_of, w8_of] at eσ_1
  have flσ_1 := FC_sg eσ_1 (by first | decide | (rcases hE with rfl | rfl | rfl <;> decide))
  have frσ_1 : FC [kB_at, kB_collections, kB_depth, kB_length, kB_levelKind, kB_levelLeft, kB_lowFirst, kB_number, kB_place, kB_shape, kB_wrong] [into_0] σ σ_1 := FC_le flσ_1 (by first | decide | (rcases hE with rfl | rfl | rfl <;> decide)) (by simp)
  have hkσ_1 : (σ_1 kB_shape 0).toNat = into_0 := by rw [eσ_1, sg_at]; first | rfl | omega | simp
  try rw [hkσ_1]
  refine wp_ck (by first | assumption | decide | omega) ?_
  refine wp_bd (v_clearA (σ := σ_1) (this_0 := into_0) hσ_1 (by first | assumption | decide | omega)) ?_
  rintro σ_4 - ⟨hσ_4, flσ_4, hc1, hc2⟩
  have frσ_4 : FC [kB_at, kB_collections, kB_depth, kB_length, kB_levelKind, kB_levelLeft, kB_lowFirst, kB_number, kB_place, kB_shape, kB_wrong] [into_0] σ σ_4 := FC_tr frσ_1 flσ_4 (by first | decide | (rcases hE with rfl | rfl | rfl <;> decide)) (by first | decide | (rcases hE with rfl | rfl | rfl <;> decide)) (by simp) (by simp)
  have hkσ_4 : (σ_4 kB_shape 0).toNat = into_0 := by rw [FC_at flσ_4 (c := kB_shape) (by decide)]; exact hkσ_1
  try rw [hkσ_4]
  have c1 := iiA_plans (s := into_0) hσ_4 (by first | assumption | decide | omega) 0
  try simp (disch := omega) only [w32_of, w64_of, w8_of] at hc1
  have c2 := iiA_points (s := into_0) hσ_4 (by first | assumption | decide | omega) 0
  try simp (disch := omega) only [w32_of, w64_of, w8_of] at hc2
  have c3 := q_mni_bd bytes_0 65536
  try simp (disch := omega) only [w32_of, w64_of, w8_of] at c3
  refine wp_wfI hσ_4 b_kB_length (by (try dsimp only) <;> first | assumption | omega | ((try simp (disch := omega) only [w32_of, w64_of, w8_of]) <;> first | assumption | omega | (split <;> omega) | (refine And.intro ?_ ?_ <;> split <;> omega)) | omega) (fun σ_5 hσ_5 eσ_5 => ?_)
  try simp (disch := omega) only [w32_of, w64_of, w8_of] at eσ_5
  have flσ_5 := FC_sg eσ_5 (by first | decide | (rcases hE with rfl | rfl | rfl <;> decide))
  have frσ_5 : FC [kB_at, kB_collections, kB_depth, kB_length, kB_levelKind, kB_levelLeft, kB_lowFirst, kB_number, kB_place, kB_shape, kB_wrong] [into_0] σ σ_5 := FC_tr frσ_4 flσ_5 (by first | decide | (rcases hE with rfl | rfl | rfl <;> decide)) (by first | decide | (rcases hE with rfl | rfl | rfl <;> decide)) (by simp) (by simp)
  have hkσ_5 : (σ_5 kB_shape 0).toNat = into_0 := by rw [FC_at flσ_5 (c := kB_shape) (by decide)]; exact hkσ_4
  try rw [hkσ_5]
  refine wp_wfI hσ_5 b_kB_at (by (try dsimp only) <;> first | assumption | omega | ((try simp (disch := omega) only [w32_of, w64_of, w8_of]) <;> first | assumption | omega | (split <;> omega) | (refine And.intro ?_ ?_ <;> split <;> omega)) | omega) (fun σ_6 hσ_6 eσ_6 => ?_)
  try simp (disch := omega) only [w32_of, w64_of, w8_of] at eσ_6
  have flσ_6 := FC_sg eσ_6 (by first | decide | (rcases hE with rfl | rfl | rfl <;> decide))
  have frσ_6 : FC [kB_at, kB_collections, kB_depth, kB_length, kB_levelKind, kB_levelLeft, kB_lowFirst, kB_number, kB_place, kB_shape, kB_wrong] [into_0] σ σ_6 := FC_tr frσ_5 flσ_6 (by first | decide | (rcases hE with rfl | rfl | rfl <;> decide)) (by first | decide | (rcases hE with rfl | rfl | rfl <;> decide)) (by simp) (by simp)
  have hkσ_6 : (σ_6 kB_shape 0).toNat = into_0 := by rw [FC_at flσ_6 (c := kB_shape) (by decide)]; exact hkσ_5
  try rw [hkσ_6]
  refine wp_wfI hσ_6 b_kB_depth (by (try dsimp only) <;> first | assumption | omega | ((try simp (disch := omega) only [w32_of, w64_of, w8_of]) <;> first | assumption | omega | (split <;> omega) | (refine And.intro ?_ ?_ <;> split <;> omega)) | omega) (fun σ_7 hσ_7 eσ_7 => ?_)
  try simp (disch := omega) only [w32_of, w64_of, w8_of] at eσ_7
  have flσ_7 := FC_sg eσ_7 (by first | decide | (rcases hE with rfl | rfl | rfl <;> decide))
  have frσ_7 : FC [kB_at, kB_collections, kB_depth, kB_length, kB_levelKind, kB_levelLeft, kB_lowFirst, kB_number, kB_place, kB_shape, kB_wrong] [into_0] σ σ_7 := FC_tr frσ_6 flσ_7 (by first | decide | (rcases hE with rfl | rfl | rfl <;> decide)) (by first | decide | (rcases hE with rfl | rfl | rfl <;> decide)) (by simp) (by simp)
  have hkσ_7 : (σ_7 kB_shape 0).toNat = into_0 := by rw [FC_at flσ_7 (c := kB_shape) (by decide)]; exact hkσ_6
  try rw [hkσ_7]
  refine wp_wfN hσ_7 b_kB_collections (fun σ_8 hσ_8 eσ_8 => ?_)
  try simp (disch := omega) only [w32_of, w64_of, w8_of] at eσ_8
  have flσ_8 := FC_sg eσ_8 (by first | decide | (rcases hE with rfl | rfl | rfl <;> decide))
  have frσ_8 : FC [kB_at, kB_collections, kB_depth, kB_length, kB_levelKind, kB_levelLeft, kB_lowFirst, kB_number, kB_place, kB_shape, kB_wrong] [into_0] σ σ_8 := FC_tr frσ_7 flσ_8 (by first | decide | (rcases hE with rfl | rfl | rfl <;> decide)) (by first | decide | (rcases hE with rfl | rfl | rfl <;> decide)) (by simp) (by simp)
  have hkσ_8 : (σ_8 kB_shape 0).toNat = into_0 := by rw [FC_at flσ_8 (c := kB_shape) (by decide)]; exact hkσ_7
  try rw [hkσ_8]
  refine wp_wfI hσ_8 b_kB_wrong (by (try dsimp only) <;> first | assumption | omega | ((try simp (disch := omega) only [w32_of, w64_of, w8_of]) <;> first | assumption | omega | (split <;> omega) | (refine And.intro ?_ ?_ <;> split <;> omega)) | omega) (fun σ_9 hσ_9 eσ_9 => ?_)
  try simp (disch := omega) only [w32_of, w64_of, w8_of] at eσ_9
  have flσ_9 := FC_sg eσ_9 (by first | decide | (rcases hE with rfl | rfl | rfl <;> decide))
  have frσ_9 : FC [kB_at, kB_collections, kB_depth, kB_length, kB_levelKind, kB_levelLeft, kB_lowFirst, kB_number, kB_place, kB_shape, kB_wrong] [into_0] σ σ_9 := FC_tr frσ_8 flσ_9 (by first | decide | (rcases hE with rfl | rfl | rfl <;> decide)) (by first | decide | (rcases hE with rfl | rfl | rfl <;> decide)) (by simp) (by simp)
  have hkσ_9 : (σ_9 kB_shape 0).toNat = into_0 := by rw [FC_at flσ_9 (c := kB_shape) (by decide)]; exact hkσ_8
  try rw [hkσ_9]
  refine wp_wfI hσ_9 b_kB_place (by (try dsimp only) <;> first | assumption | omega | ((try simp (disch := omega) only [w32_of, w64_of, w8_of]) <;> first | assumption | omega | (split <;> omega) | (refine And.intro ?_ ?_ <;> split <;> omega)) | omega) (fun σ_10 hσ_10 eσ_10 => ?_)
  try simp (disch := omega) only [w32_of, w64_of, w8_of] at eσ_10
  have flσ_10 := FC_sg eσ_10 (by first | decide | (rcases hE with rfl | rfl | rfl <;> decide))
  have frσ_10 : FC [kB_at, kB_collections, kB_depth, kB_length, kB_levelKind, kB_levelLeft, kB_lowFirst, kB_number, kB_place, kB_shape, kB_wrong] [into_0] σ σ_10 := FC_tr frσ_9 flσ_10 (by first | decide | (rcases hE with rfl | rfl | rfl <;> decide)) (by first | decide | (rcases hE with rfl | rfl | rfl <;> decide)) (by simp) (by simp)
  have hkσ_10 : (σ_10 kB_shape 0).toNat = into_0 := by rw [FC_at flσ_10 (c := kB_shape) (by decide)]; exact hkσ_9
  try rw [hkσ_10]
  have ob0 : OB σ_10 into_0 1 := OB_0 (by rw [FC_at flσ_10 (c := kB_depth) (by decide), FC_at flσ_9 (c := kB_depth) (by decide), FC_at flσ_8 (c := kB_depth) (by decide), eσ_7, sg_at]) (by rw [FC_plans flσ_10 hs_into_0 (NS_0 _), FC_plans flσ_9 hs_into_0 (NS_0 _), FC_plans flσ_8 hs_into_0 (NS_0 _), FC_plans flσ_7 hs_into_0 (NS_0 _), FC_plans flσ_6 hs_into_0 (NS_0 _), FC_plans flσ_5 hs_into_0 (NS_0 _)]; exact hc1) (by rw [FC_points flσ_10 hs_into_0 (NS_0 _), FC_points flσ_9 hs_into_0 (NS_0 _), FC_points flσ_8 hs_into_0 (NS_0 _), FC_points flσ_7 hs_into_0 (NS_0 _), FC_points flσ_6 hs_into_0 (NS_0 _), FC_points flσ_5 hs_into_0 (NS_0 _)]; exact hc2) 1
  have c4 := ii_kB_shape hσ_10 0
  have c5 := FC_at flσ_10 (c := kB_shape) (by first | decide | (rcases hE with rfl | rfl | rfl <;> decide)) 0
  have c6 := ii_kB_shape hσ_9 0
  have c7 := FC_at flσ_9 (c := kB_shape) (by first | decide | (rcases hE with rfl | rfl | rfl <;> decide)) 0
  have c8 := ii_kB_shape hσ_8 0
  have c9 := FC_at flσ_8 (c := kB_shape) (by first | decide | (rcases hE with rfl | rfl | rfl <;> decide)) 0
  have c10 := ii_kB_shape hσ_7 0
  have c11 := FC_at flσ_7 (c := kB_shape) (by first | decide | (rcases hE with rfl | rfl | rfl <;> decide)) 0
  have c12 := ii_kB_shape hσ_6 0
  have c13 := FC_at flσ_6 (c := kB_shape) (by first | decide | (rcases hE with rfl | rfl | rfl <;> decide)) 0
  have c14 := ii_kB_shape hσ_5 0
  have c15 := FC_at flσ_5 (c := kB_shape) (by first | decide | (rcases hE with rfl | rfl | rfl <;> decide)) 0
  have c16 := ii_kB_shape hσ_4 0
  have c17 := FC_at flσ_4 (c := kB_shape) (by first | decide | (rcases hE with rfl | rfl | rfl <;> decide)) 0
  have c18 := ii_kB_shape hσ_1 0
  have c19 := sg_val eσ_1
  refine wp_bd (s_B_readShape (σ := σ_10) (needed_0 := 0) (s_9 := into_0) hσ_10 (by first | assumption | decide | omega) (by (try dsimp only) <;> first | assumption | omega | ((try simp (disch := omega) only [w32_of, w64_of, w8_of]) <;> first | assumption | omega | (split <;> omega) | (refine And.intro ?_ ?_ <;> split <;> omega)) | omega) (by first | exact ob0 | exact OB_take hs_into_0 hp1 (by omega) (by omega) (by rw [← e_x_41]; exact eσ_43))) ?_
  rintro ⟨x_13, σ_12⟩ - y20
  try dsimp only at y20 ⊢
  obtain ⟨hσ_12, flσ_12, hrs⟩ := y20
  have frσ_12 : FC [kB_at, kB_collections, kB_depth, kB_length, kB_levelKind, kB_levelLeft, kB_lowFirst, kB_number, kB_place, kB_shape, kB_wrong] [into_0] σ σ_12 := FC_tr frσ_10 flσ_12 (by first | decide | (rcases hE with rfl | rfl | rfl <;> decide)) (by first | decide | (rcases hE with rfl | rfl | rfl <;> decide)) (by simp) (by simp)
  have hkσ_12 : (σ_12 kB_shape 0).toNat = into_0 := by rw [FC_at flσ_12 (c := kB_shape) (by decide)]; exact hkσ_10
  try rw [hkσ_12]
  have c21 := iiA_plans (s := into_0) hσ_10 (by first | assumption | decide | omega) 0
  have c22 := congrFun (FC_plans (t := into_0) flσ_10 (by first | assumption | decide | omega) (NS_0 _)) 0
  have c23 := iiA_plans (s := into_0) hσ_9 (by first | assumption | decide | omega) 0
  have c24 := congrFun (FC_plans (t := into_0) flσ_9 (by first | assumption | decide | omega) (NS_0 _)) 0
  have c25 := iiA_plans (s := into_0) hσ_8 (by first | assumption | decide | omega) 0
  have c26 := congrFun (FC_plans (t := into_0) flσ_8 (by first | assumption | decide | omega) (NS_0 _)) 0
  have c27 := iiA_plans (s := into_0) hσ_7 (by first | assumption | decide | omega) 0
  have c28 := congrFun (FC_plans (t := into_0) flσ_7 (by first | assumption | decide | omega) (NS_0 _)) 0
  have c29 := iiA_plans (s := into_0) hσ_6 (by first | assumption | decide | omega) 0
  have c30 := congrFun (FC_plans (t := into_0) flσ_6 (by first | assumption | decide | omega) (NS_0 _)) 0
  have c31 := iiA_plans (s := into_0) hσ_5 (by first | assumption | decide | omega) 0
  have c32 := congrFun (FC_plans (t := into_0) flσ_5 (by first | assumption | decide | omega) (NS_0 _)) 0
  have c33 := iiA_plans (s := into_0) hσ_12 (by first | assumption | decide | omega) 0
  try simp (disch := omega) only [w32_of, w64_of, w8_of] at hrs
  refine wp_bd (P := fun rr_ => II rr_.2.2 ∧ FC [kB_at, kB_collections, kB_depth, kB_length, kB_levelKind, kB_levelLeft, kB_lowFirst, kB_number, kB_place, kB_shape, kB_wrong] [into_0] σ rr_.2.2 ∧ ((rr_.2.2 kB_shape 0).toNat = into_0) ∧ ((rr_.1 = true) → (SHa rr_.2.2 into_0))) ?_ ?_
  · have c34 := ii_kB_shape hσ_12 0
    have c35 := FC_at flσ_12 (c := kB_shape) (by first | decide | (rcases hE with rfl | rfl | rfl <;> decide)) 0
    refine wp_whl (fun ss_ => II ss_.2.2 ∧ FC [kB_at, kB_collections, kB_depth, kB_length, kB_levelKind, kB_levelLeft, kB_lowFirst, kB_number, kB_place, kB_shape, kB_wrong] [into_0] σ ss_.2.2 ∧ (0 ≤ ss_.2.1) ∧ ((ss_.2.2 kB_shape 0).toNat = into_0) ∧ ((ss_.1 = true) → (OB ss_.2.2 into_0 0 ∧ 2 * ss_.2.1 + 2 ≤ ss_.2.2 (kA_plans into_0) 0))) (fun ss_ => (2050 - ss_.2.1).toNat) ⟨hσ_12, frσ_12, (by (try dsimp only) <;> first | assumption | omega | ((try simp (disch := omega) only [w32_of, w64_of, w8_of]) <;> first | assumption | omega | (split <;> omega) | (refine And.intro ?_ ?_ <;> split <;> omega)) | omega), (by (try dsimp only) <;> (first | exact hkσ_12 | exact hkσ_49)), (by (try dsimp only) <;> (intro q9; exact ⟨(hrs q9).1, by have := (hrs q9).2; omega⟩))⟩ ?_
    rintro ⟨good_14, round_15, σ_16⟩ y37
    try dsimp only at y37 ⊢
    obtain ⟨hσ_16, frσ_16, g36, hkσ_16, hgd⟩ := y37
    try rw [hkσ_16]
    refine wp_if (fun c38 => ?_) (fun c38 => ?_)
    · have k39 := hgd c38
      try simp (disch := omega) only [w32_of, w64_of, w8_of] at k39
      try simp (disch := omega) only [w32_of, w64_of, w8_of, decide_eq_true_eq, decide_eq_false_iff_not, Bool.not_eq_true] at c38
      have c41 := w32_rng round_15
      refine wp_if (fun c40 => ?_) (fun c40 => ?_)
      · try simp (disch := omega) only [w32_of, w64_of, w8_of, decide_eq_true_eq, decide_eq_false_iff_not, Bool.not_eq_true] at c40
        have c42 := ii_kB_shape hσ_16 0
        refine wp_bd (s_B_isPartLeft (σ := σ_16) (s_9 := into_0) hσ_16 (by first | assumption | decide | omega) (by (try dsimp only) <;> first | assumption | omega | ((try simp (disch := omega) only [w32_of, w64_of, w8_of]) <;> first | assumption | omega | (split <;> omega) | (refine And.intro ?_ ?_ <;> split <;> omega)) | omega) (by exact (hgd (by assumption)).1)) ?_
        rintro ⟨x_39, σ_38⟩ - y43
        try dsimp only at y43 ⊢
        obtain ⟨hσ_38, flσ_38, hp1, hp2, hp3⟩ := y43
        have frσ_38 : FC [kB_at, kB_collections, kB_depth, kB_length, kB_levelKind, kB_levelLeft, kB_lowFirst, kB_number, kB_place, kB_shape, kB_wrong] [into_0] σ σ_38 := FC_tr frσ_16 flσ_38 (by first | decide | (rcases hE with rfl | rfl | rfl <;> decide)) (by first | decide | (rcases hE with rfl | rfl | rfl <;> decide)) (by simp) (by simp)
        have hkσ_38 : (σ_38 kB_shape 0).toNat = into_0 := by rw [FC_at flσ_38 (c := kB_shape) (by decide)]; exact hkσ_16
        try rw [hkσ_38]
        try simp (disch := omega) only [w32_of, w64_of, w8_of] at hp1
        have c44 := ii_kB_depth hσ_38 0
        have c45 := FC_at flσ_38 (c := kB_levelLeft) (by first | decide | (rcases hE with rfl | rfl | rfl <;> decide)) (σ_38 kB_depth 0 - 1)
        try simp (disch := omega) only [w32_of, w64_of, w8_of] at hp2
        try simp (disch := omega) only [w32_of, w64_of, w8_of] at hp3
        refine wp_if (fun c46 => ?_) (fun c46 => ?_)
        · have k47 := hp2 c46
          try simp (disch := omega) only [w32_of, w64_of, w8_of] at k47
          try simp (disch := omega) only [w32_of, w64_of, w8_of, decide_eq_true_eq, decide_eq_false_iff_not, Bool.not_eq_true] at c46
          have c49 := w32_rng ((σ_38 kB_depth 0) - 1)
          refine wp_rdI (by (try dsimp only) <;> first | assumption | omega | ((try simp (disch := omega) only [w32_of, w64_of, w8_of]) <;> first | assumption | omega | (split <;> omega) | (refine And.intro ?_ ?_ <;> split <;> omega)) | omega) (by (try dsimp only) <;> first | assumption | omega | ((try simp (disch := omega) only [w32_of, w64_of, w8_of]) <;> first | assumption | omega | (split <;> omega) | (refine And.intro ?_ ?_ <;> split <;> omega)) | omega) (fun x_41 e_x_41 => ?_)
          try simp (disch := omega) only [w32_of, w64_of, w8_of] at e_x_41
          have c50 := FC_at flσ_38 (c := kB_levelLeft) (by first | decide | (rcases hE with rfl | rfl | rfl <;> decide)) ((σ_38 kB_depth 0) - 1)
          refine wp_waN hσ_38 b_kB_levelLeft (by (try dsimp only) <;> first | assumption | omega | ((try simp (disch := omega) only [w32_of, w64_of, w8_of]) <;> first | assumption | omega | (split <;> omega) | (refine And.intro ?_ ?_ <;> split <;> omega)) | omega) (by (try dsimp only) <;> first | assumption | omega | ((try simp (disch := omega) only [w32_of, w64_of, w8_of]) <;> first | assumption | omega | (split <;> omega) | (refine And.intro ?_ ?_ <;> split <;> omega)) | omega) (fun σ_43 hσ_43 eσ_43 => ?_)
          try simp (disch := omega) only [w32_of, w64_of, w8_of] at eσ_43
          have flσ_43 := FC_sg eσ_43 (by first | decide | (rcases hE with rfl | rfl | rfl <;> decide))
          have frσ_43 : FC [kB_at, kB_collections, kB_depth, kB_length, kB_levelKind, kB_levelLeft, kB_lowFirst, kB_number, kB_place, kB_shape, kB_wrong] [into_0] σ σ_43 := FC_tr frσ_38 flσ_43 (by first | decide | (rcases hE with rfl | rfl | rfl <;> decide)) (by first | decide | (rcases hE with rfl | rfl | rfl <;> decide)) (by simp) (by simp)
          have hkσ_43 : (σ_43 kB_shape 0).toNat = into_0 := by rw [FC_at flσ_43 (c := kB_shape) (by decide)]; exact hkσ_38
          try rw [hkσ_43]
          have c51 := ii_kB_depth hσ_43 0
          have c52 := FC_at flσ_43 (c := kB_depth) (by first | decide | (rcases hE with rfl | rfl | rfl <;> decide)) 0
          have c53 := w32_rng ((σ_43 kB_depth 0) - 1)
          refine wp_rdI (by (try dsimp only) <;> first | assumption | omega | ((try simp (disch := omega) only [w32_of, w64_of, w8_of]) <;> first | assumption | omega | (split <;> omega) | (refine And.intro ?_ ?_ <;> split <;> omega)) | omega) (by (try dsimp only) <;> first | assumption | omega | ((try simp (disch := omega) only [w32_of, w64_of, w8_of]) <;> first | assumption | omega | (split <;> omega) | (refine And.intro ?_ ?_ <;> split <;> omega)) | omega) (fun x_45 e_x_45 => ?_)
          have b_x_45 : 0 ≤ x_45 ∧ x_45 ≤ 7 := by rw [e_x_45]; exact ii_kB_levelKind hσ_43 _
          try simp (disch := omega) only [w32_of, w64_of, w8_of] at e_x_45
          have c54 := ii_kB_levelKind hσ_43 ((σ_43 kB_depth 0) - 1)
          have c55 := FC_at flσ_43 (c := kB_levelKind) (by first | decide | (rcases hE with rfl | rfl | rfl <;> decide)) ((σ_43 kB_depth 0) - 1)
          have c56 := ii_kB_levelKind hσ_38 ((σ_43 kB_depth 0) - 1)
          have c57 := FC_at flσ_38 (c := kB_levelKind) (by first | decide | (rcases hE with rfl | rfl | rfl <;> decide)) ((σ_43 kB_depth 0) - 1)
          have c58 := ii_kB_levelKind hσ_16 ((σ_43 kB_depth 0) - 1)
          have c59 := w32_rng x_45
          have c60 := ii_kB_shape hσ_43 0
          have c61 := FC_at flσ_43 (c := kB_shape) (by first | decide | (rcases hE with rfl | rfl | rfl <;> decide)) 0
          have c62 := ii_kB_shape hσ_38 0
          have c63 := FC_at flσ_38 (c := kB_shape) (by first | decide | (rcases hE with rfl | rfl | rfl <;> decide)) 0
          refine wp_bd (s_B_readShape (σ := σ_43) (needed_0 := (if ((w32 x_45) = 7) then 0 else (x_45 - 3))) (s_9 := into_0) hσ_43 (by first | assumption | decide | omega) (by (try dsimp only) <;> first | assumption | omega | ((try simp (disch := omega) only [w32_of, w64_of, w8_of]) <;> first | assumption | omega | (split <;> omega) | (refine And.intro ?_ ?_ <;> split <;> omega)) | omega) (by first | exact ob0 | exact OB_take hs_into_0 hp1 (by omega) (by omega) (by rw [← e_x_41]; exact eσ_43))) ?_
          rintro ⟨x_50, σ_49⟩ - y64
          try dsimp only at y64 ⊢
          obtain ⟨hσ_49, flσ_49, hrs⟩ := y64
          have frσ_49 : FC [kB_at, kB_collections, kB_depth, kB_length, kB_levelKind, kB_levelLeft, kB_lowFirst, kB_number, kB_place, kB_shape, kB_wrong] [into_0] σ σ_49 := FC_tr frσ_43 flσ_49 (by first | decide | (rcases hE with rfl | rfl | rfl <;> decide)) (by first | decide | (rcases hE with rfl | rfl | rfl <;> decide)) (by simp) (by simp)
          have hkσ_49 : (σ_49 kB_shape 0).toNat = into_0 := by rw [FC_at flσ_49 (c := kB_shape) (by decide)]; exact hkσ_43
          try rw [hkσ_49]
          have c65 := iiA_plans (s := into_0) hσ_43 (by first | assumption | decide | omega) 0
          have c66 := congrFun (FC_plans (t := into_0) flσ_43 (by first | assumption | decide | omega) (NS_0 _)) 0
          have c67 := iiA_plans (s := into_0) hσ_38 (by first | assumption | decide | omega) 0
          have c68 := congrFun (FC_plans (t := into_0) flσ_38 (by first | assumption | decide | omega) (NS_0 _)) 0
          have c69 := iiA_plans (s := into_0) hσ_16 (by first | assumption | decide | omega) 0
          have c70 := iiA_plans (s := into_0) hσ_49 (by first | assumption | decide | omega) 0
          try simp (disch := omega) only [w32_of, w64_of, w8_of] at hrs
          have c71 := ii_kB_shape hσ_49 0
          have c72 := FC_at flσ_49 (c := kB_shape) (by first | decide | (rcases hE with rfl | rfl | rfl <;> decide)) 0
          exact wp_some (x_inl ⟨⟨hσ_49, frσ_49, (by (try dsimp only) <;> first | assumption | omega | ((try simp (disch := omega) only [w32_of, w64_of, w8_of]) <;> first | assumption | omega | (split <;> omega) | (refine And.intro ?_ ?_ <;> split <;> omega)) | omega), (by (try dsimp only) <;> (first | exact hkσ_12 | exact hkσ_49)), (by (try dsimp only) <;> (intro q9; exact ⟨(hrs q9).1, by have := (hrs q9).2; omega⟩))⟩, (by (try dsimp only) <;> first | assumption | omega | ((try simp (disch := omega) only [w32_of, w64_of, w8_of]) <;> first | assumption | omega | (split <;> omega) | (refine And.intro ?_ ?_ <;> split <;> omega)) | omega)⟩)
        · have k74 := hp3 (Bool.eq_false_iff.mpr c46)
          try simp (disch := omega) only [w32_of, w64_of, w8_of] at k74
          try simp (disch := omega) only [w32_of, w64_of, w8_of, decide_eq_true_eq, decide_eq_false_iff_not, Bool.not_eq_true] at c46
          have c75 := ii_kB_shape hσ_38 0
          have c76 := FC_at flσ_38 (c := kB_shape) (by first | decide | (rcases hE with rfl | rfl | rfl <;> decide)) 0
          exact wp_some (x_inr ⟨hσ_38, frσ_38, (by (try dsimp only) <;> (first | exact hkσ_16 | exact hkσ_38)), (by (try dsimp only) <;> (intro q9; first | exact absurd (q9.symm.trans (by assumption : good_14 = false)) (by decide) | exact absurd q9 (by assumption) | exact absurd (hgd q9).2 (fun q2 => by have q1 := iiA_plans hσ_16 hs_into_0 0; have q3 := w32_of (x := round_15) (by omega) (by omega); omega) | exact OB_end hp1 (hp3 (by first | assumption | exact Bool.eq_false_iff.mpr (by assumption))) (by rw [FC_plans flσ_38 hs_into_0 (NS_0 _)]; have q2 := (hgd q9).2; omega)))⟩)
      · try simp (disch := omega) only [w32_of, w64_of, w8_of, decide_eq_true_eq, decide_eq_false_iff_not, Bool.not_eq_true] at c40
        have c77 := ii_kB_shape hσ_16 0
        exact wp_some (x_inr ⟨hσ_16, frσ_16, (by (try dsimp only) <;> (first | exact hkσ_16 | exact hkσ_38)), (by (try dsimp only) <;> (intro q9; first | exact absurd (q9.symm.trans (by assumption : good_14 = false)) (by decide) | exact absurd q9 (by assumption) | exact absurd (hgd q9).2 (fun q2 => by have q1 := iiA_plans hσ_16 hs_into_0 0; have q3 := w32_of (x := round_15) (by omega) (by omega); omega) | exact OB_end hp1 (hp3 (by first | assumption | exact Bool.eq_false_iff.mpr (by assumption))) (by rw [FC_plans flσ_38 hs_into_0 (NS_0 _)]; have q2 := (hgd q9).2; omega)))⟩)
    · try simp (disch := omega) only [w32_of, w64_of, w8_of, decide_eq_true_eq, decide_eq_false_iff_not, Bool.not_eq_true] at c38
      have c79 := ii_kB_shape hσ_16 0
      exact wp_some (x_inr ⟨hσ_16, frσ_16, (by (try dsimp only) <;> (first | exact hkσ_16 | exact hkσ_38)), (by (try dsimp only) <;> (intro q9; first | exact absurd (q9.symm.trans (by assumption : good_14 = false)) (by decide) | exact absurd q9 (by assumption) | exact absurd (hgd q9).2 (fun q2 => by have q1 := iiA_plans hσ_16 hs_into_0 0; have q3 := w32_of (x := round_15) (by omega) (by omega); omega) | exact OB_end hp1 (hp3 (by first | assumption | exact Bool.eq_false_iff.mpr (by assumption))) (by rw [FC_plans flσ_38 hs_into_0 (NS_0 _)]; have q2 := (hgd q9).2; omega)))⟩)
  rintro ⟨good_56, round_57, σ_58⟩ _ y80
  try dsimp only at y80 ⊢
  obtain ⟨hσ_58, frσ_58, hkσ_58, hsh⟩ := y80
  try rw [hkσ_58]
  refine wp_bd (P := fun rr_ => II rr_.2 ∧ FC [kB_at, kB_collections, kB_depth, kB_length, kB_levelKind, kB_levelLeft, kB_lowFirst, kB_number, kB_place, kB_shape, kB_wrong] [into_0] σ rr_.2 ∧ ((rr_.1 = true) → (SHa rr_.2 into_0))) ?_ ?_
  · refine wp_if (fun c81 => ?_) (fun c81 => ?_)
    · have k82 := hsh c81
      try simp (disch := omega) only [w32_of, w64_of, w8_of] at k82
      try simp (disch := omega) only [w32_of, w64_of, w8_of, decide_eq_true_eq, decide_eq_false_iff_not, Bool.not_eq_true] at c81
      have c84 := ii_kB_length hσ_58 0
      have c85 := w32_rng (σ_58 kB_length 0)
      have c86 := ii_kB_at hσ_58 0
      have c87 := w32_rng (σ_58 kB_at 0)
      refine wp_if (fun c83 => ?_) (fun c83 => ?_)
      · try simp (disch := omega) only [w32_of, w64_of, w8_of, decide_eq_true_eq, decide_eq_false_iff_not, Bool.not_eq_true] at c83
        exact wp_some ⟨hσ_58, frσ_58, (by (try dsimp only) <;> (intro q9; first | exact absurd q9 (by decide) | exact hsh (by assumption) | (rename_i hx; rw [hfl] at hx; cases hx)))⟩
      · try simp (disch := omega) only [w32_of, w64_of, w8_of, decide_eq_true_eq, decide_eq_false_iff_not, Bool.not_eq_true] at c83
        refine wp_bd (v_failB (σ := σ_58) (code_0 := 8) hσ_58 (by (try dsimp only) <;> first | assumption | omega | ((try simp (disch := omega) only [w32_of, w64_of, w8_of]) <;> first | assumption | omega | (split <;> omega) | (refine And.intro ?_ ?_ <;> split <;> omega)) | omega)) ?_
        rintro ⟨x_64, σ_63⟩ - y88
        try dsimp only at y88 ⊢
        obtain ⟨hσ_63, flσ_63, hfl⟩ := y88
        have frσ_63 : FC [kB_at, kB_collections, kB_depth, kB_length, kB_levelKind, kB_levelLeft, kB_lowFirst, kB_number, kB_place, kB_shape, kB_wrong] [into_0] σ σ_63 := FC_tr frσ_58 flσ_63 (by first | decide | (rcases hE with rfl | rfl | rfl <;> decide)) (by first | decide | (rcases hE with rfl | rfl | rfl <;> decide)) (by simp) (by simp)
        have hkσ_63 : (σ_63 kB_shape 0).toNat = into_0 := by rw [FC_at flσ_63 (c := kB_shape) (by decide)]; exact hkσ_58
        try rw [hkσ_63]
        try simp (disch := omega) only [w32_of, w64_of, w8_of] at hfl
        refine wp_if (fun c89 => ?_) (fun c89 => ?_)
        · exact absurd (c89.symm.trans hfl) (by decide)
        · try simp (disch := omega) only [w32_of, w64_of, w8_of, decide_eq_true_eq, decide_eq_false_iff_not, Bool.not_eq_true] at c89
          exact wp_some ⟨hσ_63, frσ_63, (fun q => (by cases q))⟩
    · try simp (disch := omega) only [w32_of, w64_of, w8_of, decide_eq_true_eq, decide_eq_false_iff_not, Bool.not_eq_true] at c81
      exact wp_some ⟨hσ_58, frσ_58, (fun q => (by cases q))⟩
  rintro ⟨x_69, σ_70⟩ _ y91
  try dsimp only at y91 ⊢
  obtain ⟨hσ_70, frσ_70, hsh2⟩ := y91
  try rw [hkσ_70]
  exact wp_some ⟨hσ_70, frσ_70, (by (try dsimp only) <;> (exact hsh2))⟩
