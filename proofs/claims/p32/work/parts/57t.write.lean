theorem v_putWord {σ : SG} {kind_0 : Int} (hσ : II σ) (w0 : 1 ≤ kind_0 ∧ kind_0 ≤ 8) (w1 : σ kR_resultMany 0 + 18 ≤ 131072) : wp_ (fR_putWord σ kind_0) (fun zz_ => II zz_ ∧ FR [kR_result, kR_resultMany] σ zz_ ∧ (zz_ kR_resultMany 0 ≤ σ kR_resultMany 0 + 18)) := by
  unfold fR_putWord
  have c1 := ii_kR_resultMany hσ 0
  have hsl := sl10
  refine wp_bd (P := fun rr_ => II rr_.2.2 ∧ FR [kR_result, kR_resultMany] σ rr_.2.2 ∧ (rr_.2.2 kR_resultMany 0 ≤ σ kR_resultMany 0 + 18)) ?_ ?_
  · refine wp_whl (fun ss_ => II ss_.2.2 ∧ FR [kR_result, kR_resultMany] σ ss_.2.2 ∧ (0 ≤ ss_.2.1 ∧ ss_.2.1 ≤ sLen 10) ∧ (ss_.1 = 1 + ((ct_ ss_.2.1.toNat wsp_ : Nat) : Int)) ∧ (ss_.2.2 kR_resultMany 0 = σ kR_resultMany 0 + ((ct_ ss_.2.1.toNat (wlt_ kind_0) : Nat) : Int))) (fun ss_ => (200 - ss_.2.1).toNat) ⟨hσ, (FR_refl _ _), (by (try dsimp only) <;> first | assumption | omega | ((try simp (disch := omega) only [w32_of, w64_of, w8_of]) <;> first | assumption | omega | (split <;> omega) | (refine And.intro ?_ ?_ <;> split <;> omega)) | omega), (by (try dsimp only) <;> (first | (show _ = _ + (0 : Int); omega) | omega)), (by (try dsimp only) <;> (first | (show _ = _ + (0 : Int); omega) | omega))⟩ ?_
    rintro ⟨which_1, k_2, σ_3⟩ y3
    try dsimp only at y3 ⊢
    obtain ⟨hσ_3, frσ_3, g2, gw, gr⟩ := y3
    have hm := ct_m wsp_ k_2.toNat
    have h18 := wl18 (kind := kind_0) (by omega) k_2 (by omega) (by omega)
    have c5 := w32_rng k_2
    have c6 := w32_rng (sLen 10)
    refine wp_if (fun c4 => ?_) (fun c4 => ?_)
    · try simp (disch := omega) only [w32_of, w64_of, w8_of, decide_eq_true_eq, decide_eq_false_iff_not, Bool.not_eq_true] at c4
      refine wp_ck (by (try dsimp only) <;> first | assumption | omega | ((try simp (disch := omega) only [w32_of, w64_of, w8_of]) <;> first | assumption | omega | (split <;> omega) | (refine And.intro ?_ ?_ <;> split <;> omega)) | omega) ?_
      obtain ⟨kw1, -, -⟩ := ks_i (k := k_2) (by omega) (by omega)
      have hwi := wl_i (k := k_2) (kind := kind_0) (by omega) (by omega)
      have h19 := wl18 (kind := kind_0) (by omega) (k_2 + 1) (by omega) (by omega)
      have k2e : w32 k_2 = k_2 := w32_of (by omega) (by omega)
      have hcb : -2147483648 ≤ sChr 10 (w32 k_2) ∧ sChr 10 (w32 k_2) ≤ 2147483647 := by rw [k2e, ← kw1]; exact w32_rng _
      have hcb2 := hcb
      rw [k2e] at hcb2
      refine wp_bd (P := fun rr_ => II rr_.2 ∧ FR [kR_result, kR_resultMany] σ rr_.2 ∧ (rr_.1 = 1 + ((ct_ (k_2 + 1).toNat wsp_ : Nat) : Int)) ∧ (rr_.2 kR_resultMany 0 = σ kR_resultMany 0 + ((ct_ (k_2 + 1).toNat (wlt_ kind_0) : Nat) : Int))) ?_ ?_
      · have c8 := w32_rng (sChr 10 (w32 k_2))
        refine wp_if (fun c7 => ?_) (fun c7 => ?_)
        · try simp (disch := omega) only [w32_of, w64_of, w8_of, decide_eq_true_eq, decide_eq_false_iff_not, Bool.not_eq_true] at c7
          have c9 := ii_kR_resultMany hσ_3 0
          exact wp_some ⟨hσ_3, frσ_3, (by (try dsimp only) <;> first | assumption | omega | ((try simp (disch := omega) only [w32_of, w64_of, w8_of]) <;> first | assumption | omega | (split <;> omega) | (refine And.intro ?_ ?_ <;> split <;> omega)) | omega), (by (try dsimp only) <;> first | assumption | omega | ((try simp (disch := omega) only [w32_of, w64_of, w8_of]) <;> first | assumption | omega | (split <;> omega) | (refine And.intro ?_ ?_ <;> split <;> omega)) | omega)⟩
        · try simp (disch := omega) only [w32_of, w64_of, w8_of, decide_eq_true_eq, decide_eq_false_iff_not, Bool.not_eq_true] at c7
          refine wp_bd (P := fun rr_ => II rr_ ∧ FR [kR_result, kR_resultMany] σ rr_ ∧ ((1 + ((ct_ k_2.toNat wsp_ : Nat) : Int) = kind_0 → rr_ kR_resultMany 0 = σ_3 kR_resultMany 0 + 1) ∧ (¬ 1 + ((ct_ k_2.toNat wsp_ : Nat) : Int) = kind_0 → rr_ kR_resultMany 0 = σ_3 kR_resultMany 0))) ?_ ?_
          · have c11 := w32_rng which_1
            have c12 := w32_rng kind_0
            refine wp_if (fun c10 => ?_) (fun c10 => ?_)
            · try simp (disch := omega) only [w32_of, w64_of, w8_of, decide_eq_true_eq, decide_eq_false_iff_not, Bool.not_eq_true] at c10
              have c13 := ii_kR_resultMany hσ_3 0
              refine wp_bd (s_R_put (σ := σ_3) (c_0 := (sChr 10 (w32 k_2))) hσ_3 (by (try dsimp only) <;> first | assumption | omega | ((try simp (disch := omega) only [w32_of, w64_of, w8_of]) <;> first | assumption | omega | (split <;> omega) | (refine And.intro ?_ ?_ <;> split <;> omega)) | omega) (by (try dsimp only) <;> first | assumption | omega | ((try simp (disch := omega) only [w32_of, w64_of, w8_of]) <;> first | assumption | omega | (split <;> omega) | (refine And.intro ?_ ?_ <;> split <;> omega)) | omega)) ?_
              rintro σ_25 - ⟨hσ_25, flσ_25, g14⟩
              have frσ_25 : FR [kR_result, kR_resultMany] σ σ_25 := FR_tr frσ_3 flσ_25 (by decide) (by decide)
              have c15 := ii_kR_resultMany hσ_25 0
              try simp (disch := omega) only [w32_of, w64_of, w8_of] at g14
              exact wp_some ⟨hσ_25, frσ_25, (by (try dsimp only) <;> first | assumption | omega | ((try simp (disch := omega) only [w32_of, w64_of, w8_of]) <;> first | assumption | omega | (split <;> omega) | (refine And.intro ?_ ?_ <;> split <;> omega)) | omega)⟩
            · try simp (disch := omega) only [w32_of, w64_of, w8_of, decide_eq_true_eq, decide_eq_false_iff_not, Bool.not_eq_true] at c10
              have c16 := ii_kR_resultMany hσ_3 0
              exact wp_some ⟨hσ_3, frσ_3, (by (try dsimp only) <;> first | assumption | omega | ((try simp (disch := omega) only [w32_of, w64_of, w8_of]) <;> first | assumption | omega | (split <;> omega) | (refine And.intro ?_ ?_ <;> split <;> omega)) | omega)⟩
          rintro σ_28 _ ⟨hσ_28, frσ_28, g17⟩
          have c18 := ii_kR_resultMany hσ_28 0
          exact wp_some ⟨hσ_28, frσ_28, (by (try dsimp only) <;> first | assumption | omega | ((try simp (disch := omega) only [w32_of, w64_of, w8_of]) <;> first | assumption | omega | (split <;> omega) | (refine And.intro ?_ ?_ <;> split <;> omega)) | omega), (by (try dsimp only) <;> first | assumption | omega | ((try simp (disch := omega) only [w32_of, w64_of, w8_of]) <;> first | assumption | omega | (split <;> omega) | (refine And.intro ?_ ?_ <;> split <;> omega)) | omega)⟩
      rintro ⟨which_31, σ_32⟩ _ y21
      try dsimp only at y21 ⊢
      obtain ⟨hσ_32, frσ_32, g19, g20⟩ := y21
      have c22 := ii_kR_resultMany hσ_32 0
      exact wp_some (x_inl ⟨⟨hσ_32, frσ_32, (by (try dsimp only) <;> first | assumption | omega | ((try simp (disch := omega) only [w32_of, w64_of, w8_of]) <;> first | assumption | omega | (split <;> omega) | (refine And.intro ?_ ?_ <;> split <;> omega)) | omega), (by (try dsimp only) <;> (first | (show _ = _ + (0 : Int); omega) | omega)), (by (try dsimp only) <;> (first | (show _ = _ + (0 : Int); omega) | omega))⟩, (by (try dsimp only) <;> first | assumption | omega | ((try simp (disch := omega) only [w32_of, w64_of, w8_of]) <;> first | assumption | omega | (split <;> omega) | (refine And.intro ?_ ?_ <;> split <;> omega)) | omega)⟩)
    · try simp (disch := omega) only [w32_of, w64_of, w8_of, decide_eq_true_eq, decide_eq_false_iff_not, Bool.not_eq_true] at c4
      have c23 := ii_kR_resultMany hσ_3 0
      exact wp_some (x_inr ⟨hσ_3, frσ_3, (by (try dsimp only) <;> first | assumption | omega | ((try simp (disch := omega) only [w32_of, w64_of, w8_of]) <;> first | assumption | omega | (split <;> omega) | (refine And.intro ?_ ?_ <;> split <;> omega)) | omega)⟩)
  rintro ⟨which_36, k_37, σ_38⟩ _ y25
  try dsimp only at y25 ⊢
  obtain ⟨hσ_38, frσ_38, g24⟩ := y25
  have c26 := ii_kR_resultMany hσ_38 0
  exact wp_some ⟨hσ_38, frσ_38, (by (try dsimp only) <;> first | assumption | omega | ((try simp (disch := omega) only [w32_of, w64_of, w8_of]) <;> first | assumption | omega | (split <;> omega) | (refine And.intro ?_ ?_ <;> split <;> omega)) | omega)⟩
theorem v_putNumber {σ : SG} {v_0 : Int} (hσ : II σ) (qv_0 : (-1000000000) ≤ v_0 ∧ v_0 ≤ 1000000000) (w0 : UNt σ) (w1 : σ kR_resultMany 0 + 15 ≤ 131072) : wp_ (fR_putNumber σ v_0) (fun zz_ => II zz_ ∧ FR [kR_result, kR_resultMany] σ zz_ ∧ (zz_ kR_resultMany 0 ≤ σ kR_resultMany 0 + 15)) := by
  unfold fR_putNumber
  have c1 := ii_kR_resultMany hσ 0
  have ha : 0 ≤ (if v_0 < 0 then -v_0 else v_0) ∧ (if v_0 < 0 then -v_0 else v_0) ≤ 1000000000 := by split <;> omega
  refine wp_bd (P := fun rr_ => II rr_ ∧ FR [kR_result, kR_resultMany] σ rr_ ∧ (rr_ kR_resultMany 0 ≤ σ kR_resultMany 0 + 1)) ?_ ?_
  · have c3 := w32_rng v_0
    refine wp_if (fun c2 => ?_) (fun c2 => ?_)
    · try simp (disch := omega) only [w32_of, w64_of, w8_of, decide_eq_true_eq, decide_eq_false_iff_not, Bool.not_eq_true] at c2
      refine wp_bd (s_R_put (σ := σ) (c_0 := 45) hσ (by (try dsimp only) <;> first | assumption | omega | ((try simp (disch := omega) only [w32_of, w64_of, w8_of]) <;> first | assumption | omega | (split <;> omega) | (refine And.intro ?_ ?_ <;> split <;> omega)) | omega) (by (try dsimp only) <;> first | assumption | omega | ((try simp (disch := omega) only [w32_of, w64_of, w8_of]) <;> first | assumption | omega | (split <;> omega) | (refine And.intro ?_ ?_ <;> split <;> omega)) | omega)) ?_
      rintro σ_8 - ⟨hσ_8, flσ_8, g4⟩
      have frσ_8 : FR [kR_result, kR_resultMany] σ σ_8 := FR_le flσ_8 (by decide)
      have c5 := ii_kR_resultMany hσ_8 0
      try simp (disch := omega) only [w32_of, w64_of, w8_of] at g4
      exact wp_some ⟨hσ_8, frσ_8, (by (try dsimp only) <;> first | assumption | omega | ((try simp (disch := omega) only [w32_of, w64_of, w8_of]) <;> first | assumption | omega | (split <;> omega) | (refine And.intro ?_ ?_ <;> split <;> omega)) | omega)⟩
    · try simp (disch := omega) only [w32_of, w64_of, w8_of, decide_eq_true_eq, decide_eq_false_iff_not, Bool.not_eq_true] at c2
      exact wp_some ⟨hσ, (FR_refl _ _), (by (try dsimp only) <;> first | assumption | omega | ((try simp (disch := omega) only [w32_of, w64_of, w8_of]) <;> first | assumption | omega | (split <;> omega) | (refine And.intro ?_ ?_ <;> split <;> omega)) | omega)⟩
  rintro σ_11 _ ⟨hσ_11, frσ_11, g6⟩
  refine wp_bd (P := fun rr_ => (P10 rr_)) ?_ ?_
  · refine wp_whl (fun ss_ => (P10 ss_)) (fun ss_ => (1000000001 - ss_).toNat) (by (try dsimp only) <;> (first | exact Or.inl rfl | exact hP2)) ?_
    rintro ten_12 gP
    have hl := lg10_s gP
    have c7 := ii_kR_unit hσ_11 0
    have c8 := FR_at frσ_11 (c := kR_unit) (by decide) 0
    have c9 := ii_kR_unit hσ 0
    have c10 := w64_rng (σ_11 kR_unit 0)
    refine wp_ck (by (try dsimp only) <;> first | assumption | omega | ((try simp (disch := omega) only [w32_of, w64_of, w8_of]) <;> first | assumption | omega | (split <;> omega) | (refine And.intro ?_ ?_ <;> split <;> omega)) | omega) ?_
    have c11 := w64_rng ten_12
    refine wp_ck (by (try dsimp only) <;> first | assumption | omega | ((try simp (disch := omega) only [w32_of, w64_of, w8_of]) <;> first | assumption | omega | (split <;> omega) | (refine And.intro ?_ ?_ <;> split <;> omega)) | omega) ?_
    have hu := ii_kR_unit hσ_11 0
    have h1 := ldv_n (x := (if v_0 < 0 then -v_0 else v_0)) (y := σ_11 kR_unit 0) (by omega) (by omega) (by omega) (by omega)
    have hb1 := dv_b (x := (if v_0 < 0 then -v_0 else v_0)) (y := σ_11 kR_unit 0) (by omega) (by omega)
    have h2 := ldv_n (x := (if v_0 < 0 then -v_0 else v_0) / σ_11 kR_unit 0) (y := ten_12) (by omega) (by omega) (by omega) (by omega)
    have hb2 := dv_b (x := (if v_0 < 0 then -v_0 else v_0) / σ_11 kR_unit 0) (y := ten_12) (by omega) (by omega)
    have c12 := w32_rng v_0
    have c15 := w64_rng (q_ldv (q_ldv (if ((w32 v_0) < 0) then (-(w32 v_0)) else (w32 v_0)) (σ_11 kR_unit 0)) ten_12)
    refine wp_if (fun cn => ?_) (fun cn => ?_)
    · try simp (disch := omega) only [w32_of, w64_of, w8_of, decide_eq_true_eq, decide_eq_false_iff_not, Bool.not_eq_true] at cn
      rw [h1, h2] at cn
      simp (disch := omega) only [w64_of] at cn
      have hP2 := P10_m gP (A := (if v_0 < 0 then -v_0 else v_0) / σ_11 kR_unit 0) (by omega) cn
      exact wp_some (x_inl ⟨(by (try dsimp only) <;> (first | exact Or.inl rfl | exact hP2)), (by (try dsimp only) <;> first | assumption | omega | ((try simp (disch := omega) only [w32_of, w64_of, w8_of]) <;> first | assumption | omega | (split <;> omega) | (refine And.intro ?_ ?_ <;> split <;> omega)) | omega)⟩)
    · try simp (disch := omega) only [w32_of, w64_of, w8_of, decide_eq_true_eq, decide_eq_false_iff_not, Bool.not_eq_true] at cn
      exact wp_some (x_inr (by (try dsimp only) <;> (exact gP)))
  rintro ten_25 _ gP
  have hl0 := lg10_s gP
  refine wp_bd (P := fun rr_ => II rr_.2 ∧ FR [kR_result, kR_resultMany] σ rr_.2 ∧ (rr_.2 kR_resultMany 0 ≤ σ kR_resultMany 0 + 11)) ?_ ?_
  · have c16 := ii_kR_resultMany hσ_11 0
    refine wp_whl (fun ss_ => II ss_.2 ∧ FR [kR_result, kR_resultMany] σ ss_.2 ∧ (ss_.1 = 0 ∨ P10 ss_.1) ∧ (ss_.2 kR_resultMany 0 + lg10 ss_.1 ≤ σ kR_resultMany 0 + 11)) (fun ss_ => ss_.1.toNat) ⟨hσ_11, frσ_11, (by (try dsimp only) <;> (first | exact Or.inr gP | (rw [hq10]; exact hl.2.1))), (by (try dsimp only) <;> (first | omega | (rw [hq10]; omega)))⟩ ?_
    rintro ⟨ten_26, σ_27⟩ y17
    try dsimp only at y17 ⊢
    obtain ⟨hσ_27, frσ_27, gP, gm⟩ := y17
    have hp : 0 ≤ ten_26 ∧ ten_26 ≤ 1000000000 := by
      rcases gP with z | z
      · omega
      · have := lg10_s z; omega
    have c19 := w64_rng ten_26
    refine wp_if (fun c18 => ?_) (fun c18 => ?_)
    · try simp (disch := omega) only [w32_of, w64_of, w8_of, decide_eq_true_eq, decide_eq_false_iff_not, Bool.not_eq_true] at c18
      have hl := lg10_s (t := ten_26) (by rcases gP with z | z <;> first | omega | exact z)
      have hq10 := ldv_n (x := ten_26) (y := 10) (by omega) (by omega) (by decide) (by decide)
      have c20 := ii_kR_unit hσ_27 0
      have c21 := FR_at frσ_27 (c := kR_unit) (by decide) 0
      have c22 := ii_kR_unit hσ 0
      have c23 := w64_rng (σ_27 kR_unit 0)
      refine wp_ck (by (try dsimp only) <;> first | assumption | omega | ((try simp (disch := omega) only [w32_of, w64_of, w8_of]) <;> first | assumption | omega | (split <;> omega) | (refine And.intro ?_ ?_ <;> split <;> omega)) | omega) ?_
      refine wp_ck (by (try dsimp only) <;> first | assumption | omega | ((try simp (disch := omega) only [w32_of, w64_of, w8_of]) <;> first | assumption | omega | (split <;> omega) | (refine And.intro ?_ ?_ <;> split <;> omega)) | omega) ?_
      have hu := ii_kR_unit hσ_27 0
      have h1 := ldv_n (x := (if v_0 < 0 then -v_0 else v_0)) (y := σ_27 kR_unit 0) (by omega) (by omega) (by omega) (by omega)
      have hb1 := dv_b (x := (if v_0 < 0 then -v_0 else v_0)) (y := σ_27 kR_unit 0) (by omega) (by omega)
      have h2 := ldv_n (x := (if v_0 < 0 then -v_0 else v_0) / σ_27 kR_unit 0) (y := ten_26) (by omega) (by omega) (by omega) (by omega)
      have hb2 := dv_b (x := (if v_0 < 0 then -v_0 else v_0) / σ_27 kR_unit 0) (y := ten_26) (by omega) (by omega)
      have h3 := lrm_n (x := (if v_0 < 0 then -v_0 else v_0) / σ_27 kR_unit 0 / ten_26) (y := 10) (by omega) (by omega) (by decide) (by decide)
      rw [← h2, ← h1] at h3
      have hb3 : 0 ≤ q_lrm (q_ldv (q_ldv (if v_0 < 0 then -v_0 else v_0) (σ_27 kR_unit 0)) ten_26) 10 ∧ q_lrm (q_ldv (q_ldv (if v_0 < 0 then -v_0 else v_0) (σ_27 kR_unit 0)) ten_26) 10 ≤ 9 := by rw [h3]; omega
      have c24 := w32_rng v_0
      have c28 := ii_kR_resultMany hσ_27 0
      refine wp_bd (s_R_put (σ := σ_27) (c_0 := (48 + (q_lrm (q_ldv (q_ldv (if ((w32 v_0) < 0) then (-(w32 v_0)) else (w32 v_0)) (σ_27 kR_unit 0)) ten_26) 10))) hσ_27 (by (try dsimp only) <;> first | assumption | omega | ((try simp (disch := omega) only [w32_of, w64_of, w8_of]) <;> first | assumption | omega | (split <;> omega) | (refine And.intro ?_ ?_ <;> split <;> omega)) | omega) (by (try dsimp only) <;> first | assumption | omega | ((try simp (disch := omega) only [w32_of, w64_of, w8_of]) <;> first | assumption | omega | (split <;> omega) | (refine And.intro ?_ ?_ <;> split <;> omega)) | omega)) ?_
      rintro σ_39 - ⟨hσ_39, flσ_39, g29⟩
      have frσ_39 : FR [kR_result, kR_resultMany] σ σ_39 := FR_tr frσ_27 flσ_39 (by decide) (by decide)
      have c30 := ii_kR_resultMany hσ_39 0
      try simp (disch := omega) only [w32_of, w64_of, w8_of] at g29
      exact wp_some (x_inl ⟨⟨hσ_39, frσ_39, (by (try dsimp only) <;> (first | exact Or.inr gP | (rw [hq10]; exact hl.2.1))), (by (try dsimp only) <;> (first | omega | (rw [hq10]; omega)))⟩, (by (try dsimp only) <;> first | omega | (rw [hq10]; omega))⟩)
    · try simp (disch := omega) only [w32_of, w64_of, w8_of, decide_eq_true_eq, decide_eq_false_iff_not, Bool.not_eq_true] at c18
      have hlg : 0 ≤ lg10 ten_26 := by
        rcases gP with z | z
        · rw [z]; decide
        · have := lg10_s z; omega
      have c31 := ii_kR_resultMany hσ_27 0
      exact wp_some (x_inr ⟨hσ_27, frσ_27, (by (try dsimp only) <;> first | assumption | omega | ((try simp (disch := omega) only [w32_of, w64_of, w8_of]) <;> first | assumption | omega | (split <;> omega) | (refine And.intro ?_ ?_ <;> split <;> omega)) | omega)⟩)
  rintro ⟨ten_42, σ_43⟩ _ y33
  try dsimp only at y33 ⊢
  obtain ⟨hσ_43, frσ_43, g32⟩ := y33
  have hu43 := ii_kR_unit hσ_43 0
  have c34 := ii_kR_unit hσ_43 0
  have c35 := FR_at frσ_43 (c := kR_unit) (by decide) 0
  have c36 := ii_kR_unit hσ 0
  have c37 := w64_rng (σ_43 kR_unit 0)
  refine wp_ck (by (try dsimp only) <;> first | assumption | omega | ((try simp (disch := omega) only [w32_of, w64_of, w8_of]) <;> first | assumption | omega | (split <;> omega) | (refine And.intro ?_ ?_ <;> split <;> omega)) | omega) ?_
  have hun : UNt σ_43 := UNt_f frσ_43 (by decide) w0
  have c38 := w32_rng v_0
  refine wp_lt (fun x_45 e_x_45 => ?_)
  try simp (disch := omega) only [w32_of, w64_of, w8_of] at e_x_45
  have hx45 : x_45 = (if v_0 < 0 then -v_0 else v_0) % σ_43 kR_unit 0 := by rw [e_x_45]; exact lrm_n (x := (if v_0 < 0 then -v_0 else v_0)) (y := σ_43 kR_unit 0) (by omega) (by omega) (by omega) (by omega)
  have hrd := RD_0 hun ha.1
  have hmd := md_b (x := (if v_0 < 0 then -v_0 else v_0)) (y := σ_43 kR_unit 0) (by omega)
  refine wp_bd (P := fun rr_ => II rr_ ∧ FR [kR_result, kR_resultMany] σ rr_ ∧ (rr_ kR_resultMany 0 ≤ σ kR_resultMany 0 + 12)) ?_ ?_
  · have c41 := w64_rng x_45
    refine wp_if (fun c40 => ?_) (fun c40 => ?_)
    · try simp (disch := omega) only [w32_of, w64_of, w8_of, decide_eq_true_eq, decide_eq_false_iff_not, Bool.not_eq_true] at c40
      have c42 := ii_kR_resultMany hσ_43 0
      refine wp_bd (s_R_put (σ := σ_43) (c_0 := 46) hσ_43 (by (try dsimp only) <;> first | assumption | omega | ((try simp (disch := omega) only [w32_of, w64_of, w8_of]) <;> first | assumption | omega | (split <;> omega) | (refine And.intro ?_ ?_ <;> split <;> omega)) | omega) (by (try dsimp only) <;> first | assumption | omega | ((try simp (disch := omega) only [w32_of, w64_of, w8_of]) <;> first | assumption | omega | (split <;> omega) | (refine And.intro ?_ ?_ <;> split <;> omega)) | omega)) ?_
      rintro σ_52 - ⟨hσ_52, flσ_52, g43⟩
      have frσ_52 : FR [kR_result, kR_resultMany] σ σ_52 := FR_tr frσ_43 flσ_52 (by decide) (by decide)
      have c44 := ii_kR_resultMany hσ_52 0
      try simp (disch := omega) only [w32_of, w64_of, w8_of] at g43
      exact wp_some ⟨hσ_52, frσ_52, (by (try dsimp only) <;> first | assumption | omega | ((try simp (disch := omega) only [w32_of, w64_of, w8_of]) <;> first | assumption | omega | (split <;> omega) | (refine And.intro ?_ ?_ <;> split <;> omega)) | omega)⟩
    · try simp (disch := omega) only [w32_of, w64_of, w8_of, decide_eq_true_eq, decide_eq_false_iff_not, Bool.not_eq_true] at c40
      have c45 := ii_kR_resultMany hσ_43 0
      exact wp_some ⟨hσ_43, frσ_43, (by (try dsimp only) <;> first | assumption | omega | ((try simp (disch := omega) only [w32_of, w64_of, w8_of]) <;> first | assumption | omega | (split <;> omega) | (refine And.intro ?_ ?_ <;> split <;> omega)) | omega)⟩
  rintro σ_55 _ ⟨hσ_55, frσ_55, g46⟩
  have hu55 : σ_55 kR_unit 0 = σ_43 kR_unit 0 := by rw [FR_at frσ_55 (c := kR_unit) (by decide), FR_at frσ_43 (c := kR_unit) (by decide)]
  have hq55 : q_ldv (σ_55 kR_unit 0) 10 = σ_43 kR_unit 0 / 10 := by rw [hu55]; exact ldv_n (by omega) (by omega) (by decide) (by decide)
  refine wp_bd (P := fun rr_ => II rr_.2.2 ∧ FR [kR_result, kR_resultMany] σ rr_.2.2 ∧ (rr_.2.2 kR_resultMany 0 ≤ σ kR_resultMany 0 + 15)) ?_ ?_
  · have c47 := ii_kR_unit hσ_55 0
    have c48 := FR_at frσ_55 (c := kR_unit) (by decide) 0
    have c49 := ii_kR_resultMany hσ_55 0
    refine wp_whl (fun ss_ => II ss_.2.2 ∧ FR [kR_result, kR_resultMany] σ ss_.2.2 ∧ (RD ss_.1 ss_.2.1) ∧ (ss_.2.2 kR_resultMany 0 + rl_ ss_.2.1 ≤ σ kR_resultMany 0 + 15)) (fun ss_ => ss_.2.1.toNat) ⟨hσ_55, frσ_55, (by (try dsimp only) <;> (first | (rw [hx45, hq55]; exact hrd.1) | (rw [hr1, hr2]; exact hs.2.2.2.1))), (by (try dsimp only) <;> (first | (rw [hq55]; omega) | (rw [hr2]; omega)))⟩ ?_
    rintro ⟨rest_56, u_57, σ_58⟩ y50
    try dsimp only at y50 ⊢
    obtain ⟨hσ_58, frσ_58, gr, gm⟩ := y50
    have hrl2 := rl_0 u_57
    have hrr : 0 ≤ rest_56 ∧ rest_56 < 1000 := ⟨gr.1, by rcases gr.2 with h | h | h | h <;> omega⟩
    have huu : 0 ≤ u_57 ∧ u_57 ≤ 100 := by rcases gr.2 with h | h | h | h <;> omega
    have c52 := w64_rng rest_56
    refine wp_if (fun c51 => ?_) (fun c51 => ?_)
    · try simp (disch := omega) only [w32_of, w64_of, w8_of, decide_eq_true_eq, decide_eq_false_iff_not, Bool.not_eq_true] at c51
      have hs := RD_s gr (by omega)
      have c53 := w64_rng u_57
      refine wp_ck (by (try dsimp only) <;> first | assumption | omega | ((try simp (disch := omega) only [w32_of, w64_of, w8_of]) <;> first | assumption | omega | (split <;> omega) | (refine And.intro ?_ ?_ <;> split <;> omega)) | omega) ?_
      have hr2 := ldv_n (x := u_57) (y := 10) (by omega) (by omega) (by decide) (by decide)
      have hr1 := lrm_n (x := rest_56) (y := u_57) (by omega) (by omega) (by omega) (by omega)
      have hr3 := ldv_n (x := rest_56) (y := u_57) (by omega) (by omega) (by omega) (by omega)
      have hr4 := dv_b (x := rest_56) (y := u_57) (by omega) (by omega)
      have hb3 : 0 ≤ q_ldv rest_56 u_57 ∧ q_ldv rest_56 u_57 ≤ 1000 := by rw [hr3]; omega
      have c55 := ii_kR_resultMany hσ_58 0
      refine wp_bd (s_R_put (σ := σ_58) (c_0 := (48 + (q_ldv rest_56 u_57))) hσ_58 (by (try dsimp only) <;> first | assumption | omega | ((try simp (disch := omega) only [w32_of, w64_of, w8_of]) <;> first | assumption | omega | (split <;> omega) | (refine And.intro ?_ ?_ <;> split <;> omega)) | omega) (by (try dsimp only) <;> first | assumption | omega | ((try simp (disch := omega) only [w32_of, w64_of, w8_of]) <;> first | assumption | omega | (split <;> omega) | (refine And.intro ?_ ?_ <;> split <;> omega)) | omega)) ?_
      rintro σ_69 - ⟨hσ_69, flσ_69, g56⟩
      have frσ_69 : FR [kR_result, kR_resultMany] σ σ_69 := FR_tr frσ_58 flσ_69 (by decide) (by decide)
      have c57 := ii_kR_resultMany hσ_69 0
      try simp (disch := omega) only [w32_of, w64_of, w8_of] at g56
      refine wp_ck (by (try dsimp only) <;> first | assumption | omega | ((try simp (disch := omega) only [w32_of, w64_of, w8_of]) <;> first | assumption | omega | (split <;> omega) | (refine And.intro ?_ ?_ <;> split <;> omega)) | omega) ?_
      exact wp_some (x_inl ⟨⟨hσ_69, frσ_69, (by (try dsimp only) <;> (first | (rw [hx45, hq55]; exact hrd.1) | (rw [hr1, hr2]; exact hs.2.2.2.1))), (by (try dsimp only) <;> (first | (rw [hq55]; omega) | (rw [hr2]; omega)))⟩, (by (try dsimp only) <;> rw [hr2] <;> omega)⟩)
    · try simp (disch := omega) only [w32_of, w64_of, w8_of, decide_eq_true_eq, decide_eq_false_iff_not, Bool.not_eq_true] at c51
      have hrl := rl_0 u_57
      have c58 := ii_kR_resultMany hσ_58 0
      exact wp_some (x_inr ⟨hσ_58, frσ_58, (by (try dsimp only) <;> first | assumption | omega | ((try simp (disch := omega) only [w32_of, w64_of, w8_of]) <;> first | assumption | omega | (split <;> omega) | (refine And.intro ?_ ?_ <;> split <;> omega)) | omega)⟩)
  rintro ⟨rest_73, u_74, σ_75⟩ _ y60
  try dsimp only at y60 ⊢
  obtain ⟨hσ_75, frσ_75, g59⟩ := y60
  have c61 := ii_kR_resultMany hσ_75 0
  exact wp_some ⟨hσ_75, frσ_75, (by (try dsimp only) <;> first | assumption | omega | ((try simp (disch := omega) only [w32_of, w64_of, w8_of]) <;> first | assumption | omega | (split <;> omega) | (refine And.intro ?_ ?_ <;> split <;> omega)) | omega)⟩
