theorem v_load {σ : SG} {r_0 : Int} {bits_0 : Int} (hσ : II σ) (qr_0 : 18 ≤ r_0 ∧ r_0 ≤ 19) (w0 : 0 ≤ r_0) (w1 : r_0 < 20) : wp_ (fR_load σ r_0 bits_0) (fun zz_ => II zz_ ∧ FR [kR_limbs, kR_sign, kR_w] σ zz_ ∧ (RG zz_ r_0 (ld_ bits_0) 66) ∧ (KP r_0 σ zz_)) := by
  unfold fR_load
  have c1 := q_lus_rng bits_0 52
  have c2 := q_lan_bd (q_lus bits_0 52) (m := 2047) (by decide) (by decide)
  try simp (disch := omega) only [w32_of, w64_of, w8_of] at c2
  have c3 := w32_rng (q_lan (q_lus bits_0 52) 2047)
  have c4 := q_lan_bd bits_0 (m := 4503599627370495) (by decide) (by decide)
  try simp (disch := omega) only [w32_of, w64_of, w8_of] at c4
  have c5 := q_lor_rng (q_lan bits_0 4503599627370495) 4503599627370496
  refine wp_lt (fun x_2 e_x_2 => ?_)
  try simp (disch := omega) only [w32_of, w64_of, w8_of] at e_x_2
  have hx2 : x_2 = lm_ bits_0 := by rw [e_x_2]; first | rfl | (unfold lm_; rw [w32_of (by omega) (by omega)])
  refine wp_lt (fun x_4 e_x_4 => ?_)
  try simp (disch := omega) only [w32_of, w64_of, w8_of] at e_x_4
  have hqb := q_lan_bd (q_lus bits_0 52) (m := 2047) (by decide) (by decide)
  have hx4 : x_4 = le_ bits_0 := by rw [e_x_4]; first | rfl | (unfold le_; rw [w32_of (by omega) (by omega)])
  have hb4 := le_b bits_0
  rw [← hx4] at hb4
  have hqd := idv32 hb4.1 hb4.2
  refine wp_bd (P := fun rr_ => (0 ≤ rr_.1 ∧ rr_.1 ≤ 63) ∧ II rr_.2 ∧ FR [kR_limbs, kR_sign, kR_w] σ rr_.2 ∧ (rr_.2 kR_limbs = σ kR_limbs) ∧ (rr_.2 kR_sign = σ kR_sign) ∧ (∀ i, (i < 300 * r_0 ∨ 300 * r_0 + 300 ≤ i) → rr_.2 kR_w i = σ kR_w i) ∧ (∀ i, 0 ≤ i → i < x_4 / 32 → rr_.2 kR_w (300 * r_0 + i) = 0)) ?_ ?_
  · refine wp_whl (fun ss_ => II ss_.2 ∧ FR [kR_limbs, kR_sign, kR_w] σ ss_.2 ∧ (0 ≤ ss_.1 ∧ ss_.1 ≤ x_4 / 32) ∧ (ss_.2 kR_limbs = σ kR_limbs) ∧ (ss_.2 kR_sign = σ kR_sign) ∧ (∀ i, (i < 300 * r_0 ∨ 300 * r_0 + 300 ≤ i) → ss_.2 kR_w i = σ kR_w i) ∧ (∀ i, 0 ≤ i → i < ss_.1 → ss_.2 kR_w (300 * r_0 + i) = 0)) (fun ss_ => (100 - ss_.1).toNat) ⟨hσ, (FR_refl _ _), (by (try dsimp only) <;> first | assumption | omega | ((try simp (disch := omega) only [w32_of, w64_of, w8_of]) <;> first | assumption | omega | (split <;> omega) | (refine And.intro ?_ ?_ <;> split <;> omega)) | omega), (by (try dsimp only) <;> (first | rfl | (rw [← gl]; funext i; rw [eσ_15, sg_nc (by decide)]))), (by (try dsimp only) <;> (first | rfl | (rw [← gs]; funext i; rw [eσ_15, sg_nc (by decide)]))), (by (try dsimp only) <;> (first | (intro i h; rfl) | (intro i h; rw [eσ_15, sg_ni (by omega)]; exact gw i h))), (by (try dsimp only) <;> (first | (intro i a b; exact absurd b (by omega)) | (intro i a b; by_cases q : i = k_5 <;> first | (rw [eσ_15, q, sg_at]) | (rw [eσ_15, sg_ni (by omega)]; exact gz i a (by omega)))))⟩ ?_
    rintro ⟨k_5, σ_6⟩ y7
    try dsimp only at y7 ⊢
    obtain ⟨hσ_6, frσ_6, g6, gl, gs, gw, gz⟩ := y7
    have c9 := w32_rng k_5
    have c10 := q_idv_bd x_4 32 (by (try dsimp only) <;> first | assumption | omega | ((try simp (disch := omega) only [w32_of, w64_of, w8_of]) <;> first | assumption | omega | (split <;> omega) | (refine And.intro ?_ ?_ <;> split <;> omega)) | omega) (by (try dsimp only) <;> first | assumption | omega | ((try simp (disch := omega) only [w32_of, w64_of, w8_of]) <;> first | assumption | omega | (split <;> omega) | (refine And.intro ?_ ?_ <;> split <;> omega)) | omega)
    try simp (disch := omega) only [w32_of, w64_of, w8_of] at c10
    have c11 := w32_rng (q_idv x_4 32)
    refine wp_if (fun c8 => ?_) (fun c8 => ?_)
    · try simp (disch := omega) only [w32_of, w64_of, w8_of, decide_eq_true_eq, decide_eq_false_iff_not, Bool.not_eq_true] at c8
      have c12 := w32_rng ((300 * r_0) + k_5)
      refine wp_waI hσ_6 b_kR_w (by (try dsimp only) <;> first | assumption | omega | ((try simp (disch := omega) only [w32_of, w64_of, w8_of]) <;> first | assumption | omega | (split <;> omega) | (refine And.intro ?_ ?_ <;> split <;> omega)) | omega) (by (try dsimp only) <;> first | assumption | omega | ((try simp (disch := omega) only [w32_of, w64_of, w8_of]) <;> first | assumption | omega | (split <;> omega) | (refine And.intro ?_ ?_ <;> split <;> omega)) | omega) (by (try dsimp only) <;> first | assumption | omega | ((try simp (disch := omega) only [w32_of, w64_of, w8_of]) <;> first | assumption | omega | (split <;> omega) | (refine And.intro ?_ ?_ <;> split <;> omega)) | omega) (fun σ_15 hσ_15 eσ_15 => ?_)
      try simp (disch := omega) only [w32_of, w64_of, w8_of] at eσ_15
      have flσ_15 := FR_sg eσ_15
      have frσ_15 : FR [kR_limbs, kR_sign, kR_w] σ σ_15 := FR_tr frσ_6 flσ_15 (by decide) (by decide)
      exact wp_some (x_inl ⟨⟨hσ_15, frσ_15, (by (try dsimp only) <;> first | assumption | omega | ((try simp (disch := omega) only [w32_of, w64_of, w8_of]) <;> first | assumption | omega | (split <;> omega) | (refine And.intro ?_ ?_ <;> split <;> omega)) | omega), (by (try dsimp only) <;> (first | rfl | (rw [← gl]; funext i; rw [eσ_15, sg_nc (by decide)]))), (by (try dsimp only) <;> (first | rfl | (rw [← gs]; funext i; rw [eσ_15, sg_nc (by decide)]))), (by (try dsimp only) <;> (first | (intro i h; rfl) | (intro i h; rw [eσ_15, sg_ni (by omega)]; exact gw i h))), (by (try dsimp only) <;> (first | (intro i a b; exact absurd b (by omega)) | (intro i a b; by_cases q : i = k_5 <;> first | (rw [eσ_15, q, sg_at]) | (rw [eσ_15, sg_ni (by omega)]; exact gz i a (by omega)))))⟩, (by (try dsimp only) <;> first | assumption | omega | ((try simp (disch := omega) only [w32_of, w64_of, w8_of]) <;> first | assumption | omega | (split <;> omega) | (refine And.intro ?_ ?_ <;> split <;> omega)) | omega)⟩)
    · try simp (disch := omega) only [w32_of, w64_of, w8_of, decide_eq_true_eq, decide_eq_false_iff_not, Bool.not_eq_true] at c8
      exact wp_some (x_inr ⟨(by (try dsimp only) <;> first | assumption | omega | ((try simp (disch := omega) only [w32_of, w64_of, w8_of]) <;> first | assumption | omega | (split <;> omega) | (refine And.intro ?_ ?_ <;> split <;> omega)) | omega), hσ_6, frσ_6, (by (try dsimp only) <;> (exact gl)), (by (try dsimp only) <;> (exact gs)), (by (try dsimp only) <;> (exact gw)), (by (try dsimp only) <;> (intro i a b; exact gz i a (by omega)))⟩)
  rintro ⟨k_19, σ_20⟩ _ y14
  try dsimp only at y14 ⊢
  obtain ⟨g13, hσ_20, frσ_20, gl, gs, gw, gz⟩ := y14
  have c15 := q_lus_rng x_2 32
  have c16 := q_irm_bd x_4 32 (by (try dsimp only) <;> first | assumption | omega | ((try simp (disch := omega) only [w32_of, w64_of, w8_of]) <;> first | assumption | omega | (split <;> omega) | (refine And.intro ?_ ?_ <;> split <;> omega)) | omega)
  try simp (disch := omega) only [w32_of, w64_of, w8_of] at c16
  have c17 := q_lsl_rng (q_lus x_2 32) (q_irm x_4 32)
  have c18 := q_lan_bd x_2 (m := 4294967295) (by decide) (by decide)
  try simp (disch := omega) only [w32_of, w64_of, w8_of] at c18
  have c19 := q_lsl_rng (q_lan x_2 4294967295) (q_irm x_4 32)
  have c20 := q_lus_rng (q_lsl (q_lan x_2 4294967295) (q_irm x_4 32)) 32
  refine wp_lt (fun x_21 e_x_21 => ?_)
  try simp (disch := omega) only [w32_of, w64_of, w8_of] at e_x_21
  have hx21 : x_21 = lh_ bits_0 := by rw [e_x_21, hx2, hx4]; rfl
  have hd0 := q_lan_bd (q_lsl (q_lan x_2 4294967295) (q_irm x_4 32)) (m := 4294967295) (by decide) (by decide)
  have hd1 := q_lan_bd x_21 (m := 4294967295) (by decide) (by decide)
  have hd2 := lus32_b x_21
  have c21 := q_lan_bd (q_lsl (q_lan x_2 4294967295) (q_irm x_4 32)) (m := 4294967295) (by decide) (by decide)
  try simp (disch := omega) only [w32_of, w64_of, w8_of] at c21
  have c22 := q_idv_bd x_4 32 (by (try dsimp only) <;> first | assumption | omega | ((try simp (disch := omega) only [w32_of, w64_of, w8_of]) <;> first | assumption | omega | (split <;> omega) | (refine And.intro ?_ ?_ <;> split <;> omega)) | omega) (by (try dsimp only) <;> first | assumption | omega | ((try simp (disch := omega) only [w32_of, w64_of, w8_of]) <;> first | assumption | omega | (split <;> omega) | (refine And.intro ?_ ?_ <;> split <;> omega)) | omega)
  try simp (disch := omega) only [w32_of, w64_of, w8_of] at c22
  have c23 := w32_rng ((300 * r_0) + (q_idv x_4 32))
  refine wp_waI hσ_20 b_kR_w (by (try dsimp only) <;> first | assumption | omega | ((try simp (disch := omega) only [w32_of, w64_of, w8_of]) <;> first | assumption | omega | (split <;> omega) | (refine And.intro ?_ ?_ <;> split <;> omega)) | omega) (by (try dsimp only) <;> first | assumption | omega | ((try simp (disch := omega) only [w32_of, w64_of, w8_of]) <;> first | assumption | omega | (split <;> omega) | (refine And.intro ?_ ?_ <;> split <;> omega)) | omega) (by (try dsimp only) <;> first | assumption | omega | ((try simp (disch := omega) only [w32_of, w64_of, w8_of]) <;> first | assumption | omega | (split <;> omega) | (refine And.intro ?_ ?_ <;> split <;> omega)) | omega) (fun σ_22 hσ_22 eσ_22 => ?_)
  try simp (disch := omega) only [w32_of, w64_of, w8_of] at eσ_22
  have flσ_22 := FR_sg eσ_22
  have frσ_22 : FR [kR_limbs, kR_sign, kR_w] σ σ_22 := FR_tr frσ_20 flσ_22 (by decide) (by decide)
  have c24 := q_lan_bd x_21 (m := 4294967295) (by decide) (by decide)
  try simp (disch := omega) only [w32_of, w64_of, w8_of] at c24
  have c25 := w32_rng (((300 * r_0) + (q_idv x_4 32)) + 1)
  refine wp_waI hσ_22 b_kR_w (by (try dsimp only) <;> first | assumption | omega | ((try simp (disch := omega) only [w32_of, w64_of, w8_of]) <;> first | assumption | omega | (split <;> omega) | (refine And.intro ?_ ?_ <;> split <;> omega)) | omega) (by (try dsimp only) <;> first | assumption | omega | ((try simp (disch := omega) only [w32_of, w64_of, w8_of]) <;> first | assumption | omega | (split <;> omega) | (refine And.intro ?_ ?_ <;> split <;> omega)) | omega) (by (try dsimp only) <;> first | assumption | omega | ((try simp (disch := omega) only [w32_of, w64_of, w8_of]) <;> first | assumption | omega | (split <;> omega) | (refine And.intro ?_ ?_ <;> split <;> omega)) | omega) (fun σ_24 hσ_24 eσ_24 => ?_)
  try simp (disch := omega) only [w32_of, w64_of, w8_of] at eσ_24
  have flσ_24 := FR_sg eσ_24
  have frσ_24 : FR [kR_limbs, kR_sign, kR_w] σ σ_24 := FR_tr frσ_22 flσ_24 (by decide) (by decide)
  have c26 := q_lus_rng x_21 32
  have c27 := w32_rng (((300 * r_0) + (q_idv x_4 32)) + 2)
  refine wp_waI hσ_24 b_kR_w (by (try dsimp only) <;> first | assumption | omega | ((try simp (disch := omega) only [w32_of, w64_of, w8_of]) <;> first | assumption | omega | (split <;> omega) | (refine And.intro ?_ ?_ <;> split <;> omega)) | omega) (by (try dsimp only) <;> first | assumption | omega | ((try simp (disch := omega) only [w32_of, w64_of, w8_of]) <;> first | assumption | omega | (split <;> omega) | (refine And.intro ?_ ?_ <;> split <;> omega)) | omega) (by (try dsimp only) <;> first | assumption | omega | ((try simp (disch := omega) only [w32_of, w64_of, w8_of]) <;> first | assumption | omega | (split <;> omega) | (refine And.intro ?_ ?_ <;> split <;> omega)) | omega) (fun σ_26 hσ_26 eσ_26 => ?_)
  try simp (disch := omega) only [w32_of, w64_of, w8_of] at eσ_26
  have flσ_26 := FR_sg eσ_26
  have frσ_26 : FR [kR_limbs, kR_sign, kR_w] σ σ_26 := FR_tr frσ_24 flσ_26 (by decide) (by decide)
  have c28 := w32_rng r_0
  refine wp_waI hσ_26 b_kR_limbs (by (try dsimp only) <;> first | assumption | omega | ((try simp (disch := omega) only [w32_of, w64_of, w8_of]) <;> first | assumption | omega | (split <;> omega) | (refine And.intro ?_ ?_ <;> split <;> omega)) | omega) (by (try dsimp only) <;> first | assumption | omega | ((try simp (disch := omega) only [w32_of, w64_of, w8_of]) <;> first | assumption | omega | (split <;> omega) | (refine And.intro ?_ ?_ <;> split <;> omega)) | omega) (by (try dsimp only) <;> first | assumption | omega | ((try simp (disch := omega) only [w32_of, w64_of, w8_of]) <;> first | assumption | omega | (split <;> omega) | (refine And.intro ?_ ?_ <;> split <;> omega)) | omega) (fun σ_28 hσ_28 eσ_28 => ?_)
  try simp (disch := omega) only [w32_of, w64_of, w8_of] at eσ_28
  have flσ_28 := FR_sg eσ_28
  have frσ_28 : FR [kR_limbs, kR_sign, kR_w] σ σ_28 := FR_tr frσ_26 flσ_28 (by decide) (by decide)
  have c29 := w64_rng bits_0
  refine wp_waI hσ_28 b_kR_sign (by (try dsimp only) <;> first | assumption | omega | ((try simp (disch := omega) only [w32_of, w64_of, w8_of]) <;> first | assumption | omega | (split <;> omega) | (refine And.intro ?_ ?_ <;> split <;> omega)) | omega) (by (try dsimp only) <;> first | assumption | omega | ((try simp (disch := omega) only [w32_of, w64_of, w8_of]) <;> first | assumption | omega | (split <;> omega) | (refine And.intro ?_ ?_ <;> split <;> omega)) | omega) (by (try dsimp only) <;> first | assumption | omega | ((try simp (disch := omega) only [w32_of, w64_of, w8_of]) <;> first | assumption | omega | (split <;> omega) | (refine And.intro ?_ ?_ <;> split <;> omega)) | omega) (fun σ_31 hσ_31 eσ_31 => ?_)
  try simp (disch := omega) only [w32_of, w64_of, w8_of] at eσ_31
  have flσ_31 := FR_sg eσ_31
  have frσ_31 : FR [kR_limbs, kR_sign, kR_w] σ σ_31 := FR_tr frσ_28 flσ_31 (by decide) (by decide)
  have l31 : σ_31 kR_limbs r_0 = q_idv x_4 32 + 3 := by simp (disch := first | decide | omega) only [eσ_31, eσ_28, sg_at, sg_nc, sg_ni]
  have s31 : σ_31 kR_sign r_0 = if w64 bits_0 < 0 then -1 else 1 := by rw [eσ_31, sg_at]
  have wz : ∀ i, 0 ≤ i → i < q_idv x_4 32 → σ_31 kR_w (300 * r_0 + i) = 0 := fun i a b => by simp (disch := first | decide | omega) only [eσ_31, eσ_28, eσ_26, eσ_24, eσ_22, sg_at, sg_nc, sg_ni]; exact gz i a (by omega)
  have w0_ : σ_31 kR_w (300 * r_0 + q_idv x_4 32) = q_lan (q_lsl (q_lan x_2 4294967295) (q_irm x_4 32)) 4294967295 := by simp (disch := first | decide | omega) only [eσ_31, eσ_28, eσ_26, eσ_24, eσ_22, sg_at, sg_nc, sg_ni]
  have w1_ : σ_31 kR_w (300 * r_0 + q_idv x_4 32 + 1) = q_lan x_21 4294967295 := by simp (disch := first | decide | omega) only [eσ_31, eσ_28, eσ_26, eσ_24, sg_at, sg_nc, sg_ni]
  have w2_ : σ_31 kR_w (300 * r_0 + q_idv x_4 32 + 2) = q_lus x_21 32 := by simp (disch := first | decide | omega) only [eσ_31, eσ_28, eσ_26, sg_at, sg_nc, sg_ni]
  have rv31 : RV σ_31 r_0 = ld_ bits_0 := ld_RV (q := q_idv x_4 32) (by omega) (by rw [hx4]) l31 s31 wz (by rw [w0_, hx2, hx4]) (by rw [w1_, hx21]) (by rw [w2_, hx21])
  have kp31 : KP r_0 σ σ_31 := KP_w hσ (fun i hi => by simp (disch := first | decide | omega) only [eσ_31, eσ_28, eσ_26, eσ_24, eσ_22, sg_at, sg_nc, sg_ni]; exact gw i hi) (fun q n => by simp (disch := first | decide | omega) only [eσ_31, eσ_28, eσ_26, eσ_24, eσ_22, sg_at, sg_nc, sg_ni]; rw [gl]) (fun q n => by simp (disch := first | decide | omega) only [eσ_31, eσ_28, eσ_26, eσ_24, eσ_22, sg_at, sg_nc, sg_ni]; rw [gs])
  have c30 := ii_kR_sign hσ_31 r_0
  have c31 := sg_val eσ_31
  have c32 := ii_kR_limbs hσ_31 r_0
  have c33 := FR_at flσ_31 (c := kR_limbs) (by decide) r_0
  have c34 := ii_kR_limbs hσ_28 r_0
  have c35 := sg_val eσ_28
  refine wp_bd (v_trim (σ := σ_31) (r := r_0) hσ_31 (by (try dsimp only) <;> first | assumption | omega | ((try simp (disch := omega) only [w32_of, w64_of, w8_of]) <;> first | assumption | omega | (split <;> omega) | (refine And.intro ?_ ?_ <;> split <;> omega)) | omega) (by (try dsimp only) <;> first | assumption | omega | ((try simp (disch := omega) only [w32_of, w64_of, w8_of]) <;> first | assumption | omega | (split <;> omega) | (refine And.intro ?_ ?_ <;> split <;> omega)) | omega) (by intro h; rw [s31] at h; split at h <;> omega)) ?_
  rintro σ_34 - ⟨hσ_34, flσ_34, g1, g2, g3, g4⟩
  have frσ_34 : FR [kR_limbs, kR_sign, kR_w] σ σ_34 := FR_tr frσ_31 flσ_34 (by decide) (by decide)
  try simp (disch := omega) only [w32_of, w64_of, w8_of] at g1
  try simp (disch := omega) only [w32_of, w64_of, w8_of] at g2
  have c36 := ii_kR_limbs hσ_34 r_0
  try simp (disch := omega) only [w32_of, w64_of, w8_of] at g3
  try simp (disch := omega) only [w32_of, w64_of, w8_of] at g4
  have rg34 : RG σ_34 r_0 (ld_ bits_0) 66 := ⟨g1, g2.trans rv31, by omega⟩
  have kp34 : KP r_0 σ σ_34 := KP_tr kp31 (KP_of hσ_31 g4)
  exact wp_some ⟨hσ_34, frσ_34, (by (try dsimp only) <;> (exact rg34)), (by (try dsimp only) <;> (exact kp34))⟩
theorem v_between {σ : SG} {to_0 : Int} {isX_0 : Bool} {p_0 : Int} {q_0 : Int} (hσ : II σ) (qto_0 : 0 ≤ to_0 ∧ to_0 ≤ 7) (qp_0 : 0 ≤ p_0 ∧ p_0 ≤ 31) (qq_0 : 0 ≤ q_0 ∧ q_0 ≤ 31) (w0 : 0 ≤ to_0 ∧ to_0 < 18) (w1 : 0 ≤ p_0 ∧ p_0 < 32) (w2 : 0 ≤ q_0 ∧ q_0 < 32) : wp_ (fR_between σ to_0 isX_0 p_0 q_0) (fun zz_ => II zz_ ∧ FR [kR_limbs, kR_sign, kR_w] σ zz_ ∧ (RG zz_ to_0 (dfb_ σ isX_0 p_0 q_0) 67) ∧ (KN [18, 19, to_0] σ zz_)) := by
  unfold fR_between
  refine wp_bd (P := fun rr_ => (rr_ = if isX_0 = true then σ kR_signX p_0 else σ kR_signY p_0)) ?_ ?_
  · refine wp_if (fun c1 => ?_) (fun c1 => ?_)
    · try simp (disch := omega) only [w32_of, w64_of, w8_of, decide_eq_true_eq, decide_eq_false_iff_not, Bool.not_eq_true] at c1
      have c2 := w32_rng p_0
      refine wp_rdI (by (try dsimp only) <;> first | assumption | omega | ((try simp (disch := omega) only [w32_of, w64_of, w8_of]) <;> first | assumption | omega | (split <;> omega) | (refine And.intro ?_ ?_ <;> split <;> omega)) | omega) (by (try dsimp only) <;> first | assumption | omega | ((try simp (disch := omega) only [w32_of, w64_of, w8_of]) <;> first | assumption | omega | (split <;> omega) | (refine And.intro ?_ ?_ <;> split <;> omega)) | omega) (fun x_6 e_x_6 => ?_)
      have b_x_6 : (-9223372036854775808) ≤ x_6 ∧ x_6 ≤ 9223372036854775807 := by rw [e_x_6]; exact ii_kR_signX hσ _
      try simp (disch := omega) only [w32_of, w64_of, w8_of] at e_x_6
      have c3 := ii_kR_signX hσ p_0
      have c4 := ii_kR_signY hσ p_0
      exact wp_some (by (try dsimp only) <;> (split <;> first | exact e_x_6 | exact e_x_9 | simp_all))
    · try simp (disch := omega) only [w32_of, w64_of, w8_of, decide_eq_true_eq, decide_eq_false_iff_not, Bool.not_eq_true] at c1
      have c5 := w32_rng p_0
      refine wp_rdI (by (try dsimp only) <;> first | assumption | omega | ((try simp (disch := omega) only [w32_of, w64_of, w8_of]) <;> first | assumption | omega | (split <;> omega) | (refine And.intro ?_ ?_ <;> split <;> omega)) | omega) (by (try dsimp only) <;> first | assumption | omega | ((try simp (disch := omega) only [w32_of, w64_of, w8_of]) <;> first | assumption | omega | (split <;> omega) | (refine And.intro ?_ ?_ <;> split <;> omega)) | omega) (fun x_9 e_x_9 => ?_)
      have b_x_9 : (-9223372036854775808) ≤ x_9 ∧ x_9 ≤ 9223372036854775807 := by rw [e_x_9]; exact ii_kR_signY hσ _
      try simp (disch := omega) only [w32_of, w64_of, w8_of] at e_x_9
      have c6 := ii_kR_signY hσ p_0
      have c7 := ii_kR_signX hσ p_0
      exact wp_some (by (try dsimp only) <;> (split <;> first | exact e_x_6 | exact e_x_9 | simp_all))
  rintro x_12 _ h12
  refine wp_bd (v_load (σ := σ) (r_0 := 18) (bits_0 := x_12) hσ (by (try dsimp only) <;> first | assumption | omega | ((try simp (disch := omega) only [w32_of, w64_of, w8_of]) <;> first | assumption | omega | (split <;> omega) | (refine And.intro ?_ ?_ <;> split <;> omega)) | omega) (by (try dsimp only) <;> first | assumption | omega | ((try simp (disch := omega) only [w32_of, w64_of, w8_of]) <;> first | assumption | omega | (split <;> omega) | (refine And.intro ?_ ?_ <;> split <;> omega)) | omega) (by (try dsimp only) <;> first | assumption | omega | ((try simp (disch := omega) only [w32_of, w64_of, w8_of]) <;> first | assumption | omega | (split <;> omega) | (refine And.intro ?_ ?_ <;> split <;> omega)) | omega)) ?_
  rintro σ_14 - ⟨hσ_14, flσ_14, g8, g9⟩
  have frσ_14 : FR [kR_limbs, kR_sign, kR_w] σ σ_14 := FR_le flσ_14 (by decide)
  have rgσ_14_18 : RG σ_14 18 (ld_ x_12) 66 := g8
  have kpσ_14 := g9
  refine wp_bd (P := fun rr_ => (rr_ = if isX_0 = true then σ kR_signX q_0 else σ kR_signY q_0)) ?_ ?_
  · refine wp_if (fun c10 => ?_) (fun c10 => ?_)
    · try simp (disch := omega) only [w32_of, w64_of, w8_of, decide_eq_true_eq, decide_eq_false_iff_not, Bool.not_eq_true] at c10
      have c11 := w32_rng q_0
      refine wp_rdI (by (try dsimp only) <;> first | assumption | omega | ((try simp (disch := omega) only [w32_of, w64_of, w8_of]) <;> first | assumption | omega | (split <;> omega) | (refine And.intro ?_ ?_ <;> split <;> omega)) | omega) (by (try dsimp only) <;> first | assumption | omega | ((try simp (disch := omega) only [w32_of, w64_of, w8_of]) <;> first | assumption | omega | (split <;> omega) | (refine And.intro ?_ ?_ <;> split <;> omega)) | omega) (fun x_20 e_x_20 => ?_)
      have b_x_20 : (-9223372036854775808) ≤ x_20 ∧ x_20 ≤ 9223372036854775807 := by rw [e_x_20]; exact ii_kR_signX hσ_14 _
      rw [FR_at frσ_14 (c := kR_signX) (by decide)] at e_x_20
      try simp (disch := omega) only [w32_of, w64_of, w8_of] at e_x_20
      have c12 := ii_kR_signX hσ_14 q_0
      have c13 := FR_at flσ_14 (c := kR_signX) (by decide) q_0
      have c14 := ii_kR_signX hσ q_0
      have c15 := ii_kR_signY hσ q_0
      exact wp_some (by (try dsimp only) <;> (split <;> first | exact e_x_20 | exact e_x_23 | exact e_x_20.trans (FR_at flσ_14 (c := kR_signX) (by decide) _) | exact e_x_23.trans (FR_at flσ_14 (c := kR_signY) (by decide) _) | simp_all))
    · try simp (disch := omega) only [w32_of, w64_of, w8_of, decide_eq_true_eq, decide_eq_false_iff_not, Bool.not_eq_true] at c10
      have c16 := w32_rng q_0
      refine wp_rdI (by (try dsimp only) <;> first | assumption | omega | ((try simp (disch := omega) only [w32_of, w64_of, w8_of]) <;> first | assumption | omega | (split <;> omega) | (refine And.intro ?_ ?_ <;> split <;> omega)) | omega) (by (try dsimp only) <;> first | assumption | omega | ((try simp (disch := omega) only [w32_of, w64_of, w8_of]) <;> first | assumption | omega | (split <;> omega) | (refine And.intro ?_ ?_ <;> split <;> omega)) | omega) (fun x_23 e_x_23 => ?_)
      have b_x_23 : (-9223372036854775808) ≤ x_23 ∧ x_23 ≤ 9223372036854775807 := by rw [e_x_23]; exact ii_kR_signY hσ_14 _
      rw [FR_at frσ_14 (c := kR_signY) (by decide)] at e_x_23
      try simp (disch := omega) only [w32_of, w64_of, w8_of] at e_x_23
      have c17 := ii_kR_signY hσ_14 q_0
      have c18 := FR_at flσ_14 (c := kR_signY) (by decide) q_0
      have c19 := ii_kR_signY hσ q_0
      have c20 := ii_kR_signX hσ q_0
      exact wp_some (by (try dsimp only) <;> (split <;> first | exact e_x_20 | exact e_x_23 | exact e_x_20.trans (FR_at flσ_14 (c := kR_signX) (by decide) _) | exact e_x_23.trans (FR_at flσ_14 (c := kR_signY) (by decide) _) | simp_all))
  rintro x_26 _ h26
  refine wp_bd (v_load (σ := σ_14) (r_0 := 19) (bits_0 := x_26) hσ_14 (by (try dsimp only) <;> first | assumption | omega | ((try simp (disch := omega) only [w32_of, w64_of, w8_of]) <;> first | assumption | omega | (split <;> omega) | (refine And.intro ?_ ?_ <;> split <;> omega)) | omega) (by (try dsimp only) <;> first | assumption | omega | ((try simp (disch := omega) only [w32_of, w64_of, w8_of]) <;> first | assumption | omega | (split <;> omega) | (refine And.intro ?_ ?_ <;> split <;> omega)) | omega) (by (try dsimp only) <;> first | assumption | omega | ((try simp (disch := omega) only [w32_of, w64_of, w8_of]) <;> first | assumption | omega | (split <;> omega) | (refine And.intro ?_ ?_ <;> split <;> omega)) | omega)) ?_
  rintro σ_28 - ⟨hσ_28, flσ_28, g21, g22⟩
  have frσ_28 : FR [kR_limbs, kR_sign, kR_w] σ σ_28 := FR_tr frσ_14 flσ_28 (by decide) (by decide)
  have rgσ_28_19 : RG σ_28 19 (ld_ x_26) 66 := g21
  have kpσ_28 := g22
  have rgσ_28_18 : RG σ_28 18 (ld_ x_12) 66 := g22 18 _ _ (by decide) (by decide) (by omega) rgσ_14_18
  refine wp_bd (g_add (σ := σ_28) (t := to_0) (a := 18) (b := 19) (less := true) hσ_28 (by (try dsimp only) <;> first | assumption | omega | ((try simp (disch := omega) only [w32_of, w64_of, w8_of]) <;> first | assumption | omega | (split <;> omega) | (refine And.intro ?_ ?_ <;> split <;> omega)) | omega) (by (try dsimp only) <;> first | assumption | omega | ((try simp (disch := omega) only [w32_of, w64_of, w8_of]) <;> first | assumption | omega | (split <;> omega) | (refine And.intro ?_ ?_ <;> split <;> omega)) | omega) (by (try dsimp only) <;> first | assumption | omega | ((try simp (disch := omega) only [w32_of, w64_of, w8_of]) <;> first | assumption | omega | (split <;> omega) | (refine And.intro ?_ ?_ <;> split <;> omega)) | omega) (by (try dsimp only) <;> first | assumption | omega | ((try simp (disch := omega) only [w32_of, w64_of, w8_of]) <;> first | assumption | omega | (split <;> omega) | (refine And.intro ?_ ?_ <;> split <;> omega)) | omega) (by (try dsimp only) <;> first | assumption | omega | ((try simp (disch := omega) only [w32_of, w64_of, w8_of]) <;> first | assumption | omega | (split <;> omega) | (refine And.intro ?_ ?_ <;> split <;> omega)) | omega) (by (try dsimp only) <;> first | assumption | omega | ((try simp (disch := omega) only [w32_of, w64_of, w8_of]) <;> first | assumption | omega | (split <;> omega) | (refine And.intro ?_ ?_ <;> split <;> omega)) | omega) (RG_le rgσ_28_18 (by decide : (66 : Int) ≤ 66)) (RG_le rgσ_28_19 (by decide : (66 : Int) ≤ 66)) (by decide)) ?_
  rintro σ_30 - ⟨hσ_30, flσ_30, g23, g24⟩
  have frσ_30 : FR [kR_limbs, kR_sign, kR_w] σ σ_30 := FR_tr frσ_28 flσ_30 (by decide) (by decide)
  have rgσ_30_to_0 : RG σ_30 to_0 ((ld_ x_12) - (ld_ x_26)) 67 := g23
  have kpσ_30 := g24
  have rgσ_30_19 : RG σ_30 19 (ld_ x_26) 66 := g24 19 _ _ (by omega) (by omega) (by omega) rgσ_28_19
  have rgσ_30_18 : RG σ_30 18 (ld_ x_12) 66 := g24 18 _ _ (by omega) (by omega) (by omega) rgσ_28_18
  have rg30 : RG σ_30 to_0 (dfb_ σ isX_0 p_0 q_0) 67 := by
    unfold dfb_
    rw [← h12, ← h26]
    exact rgσ_30_to_0
  have kn30 : KN [18, 19, to_0] σ σ_30 := fun q v L a b c h => kpσ_30 q v L a b (c to_0 (by simp)) (kpσ_28 q v L a b (c 19 (by simp)) (kpσ_14 q v L a b (c 18 (by simp)) h))
  exact wp_some ⟨hσ_30, frσ_30, (by (try dsimp only) <;> (exact rg30)), (by (try dsimp only) <;> (exact kn30))⟩
theorem s_R_side {σ : SG} {i_0 : Int} {j_0 : Int} {k_0 : Int} (hσ : II σ) (qi_0 : (-2147483648) ≤ i_0 ∧ i_0 ≤ 2147483647) (qj_0 : (-2147483648) ≤ j_0 ∧ j_0 ≤ 2147483647) (qk_0 : (-2147483648) ≤ k_0 ∧ k_0 ≤ 2147483647) : wp_ (fR_side σ i_0 j_0 k_0) (fun zz_ => ((-1) ≤ zz_.1 ∧ zz_.1 ≤ 1) ∧ II zz_.2 ∧ FR [kR_limbs, kR_sign, kR_thrown, kR_w] σ zz_.2) := by
  unfold fR_side
  refine wp_wfI hσ b_kR_thrown (by (try dsimp only) <;> first | assumption | omega | ((try simp (disch := omega) only [w32_of, w64_of, w8_of]) <;> first | assumption | omega | (split <;> omega) | (refine And.intro ?_ ?_ <;> split <;> omega)) | omega) (fun σ_1 hσ_1 eσ_1 => ?_)
  try simp (disch := omega) only [w32_of, w64_of, w8_of] at eσ_1
  have flσ_1 := FR_sg eσ_1
  have frσ_1 : FR [kR_limbs, kR_sign, kR_thrown, kR_w] σ σ_1 := FR_le flσ_1 (by decide)
  have c3 := ii_kR_thrown hσ_1 0
  have c4 := sg_val eσ_1
  refine wp_fails hσ_1 (by (try dsimp only) <;> first | assumption | omega | ((try simp (disch := omega) only [w32_of, w64_of, w8_of]) <;> first | assumption | omega | (split <;> omega) | (refine And.intro ?_ ?_ <;> split <;> omega)) | omega) (by decide) (fun σ_4 hσ_4 flσ_4 e1 e2 => ?_)
  try dsimp only
  have frσ_4 : FR [kR_limbs, kR_sign, kR_thrown, kR_w] σ σ_4 := FR_tr frσ_1 flσ_4 (by decide) (by decide)
  refine wp_if (fun c5 => ?_) (fun c5 => ?_)
  · have k6 := e1 c5
    try simp (disch := omega) only [w32_of, w64_of, w8_of, decide_eq_true_eq, decide_eq_false_iff_not, Bool.not_eq_true, fR_isPoint] at c5
    exact wp_some ⟨(by (try dsimp only) <;> first | assumption | omega | ((try simp (disch := omega) only [w32_of, w64_of, w8_of]) <;> first | assumption | omega | (split <;> omega) | (refine And.intro ?_ ?_ <;> split <;> omega)) | omega), hσ_4, frσ_4⟩
  · have k7 := e2 c5
    try simp (disch := omega) only [w32_of, w64_of, w8_of, decide_eq_true_eq, decide_eq_false_iff_not, Bool.not_eq_true, fR_isPoint] at c5
    refine wp_bd (v_between (σ := σ_4) (to_0 := 0) (isX_0 := true) (p_0 := j_0) (q_0 := i_0) hσ_4 (by (try dsimp only) <;> first | assumption | omega | ((try simp (disch := omega) only [w32_of, w64_of, w8_of]) <;> first | assumption | omega | (split <;> omega) | (refine And.intro ?_ ?_ <;> split <;> omega)) | omega) (by (try dsimp only) <;> first | assumption | omega | ((try simp (disch := omega) only [w32_of, w64_of, w8_of]) <;> first | assumption | omega | (split <;> omega) | (refine And.intro ?_ ?_ <;> split <;> omega)) | omega) (by (try dsimp only) <;> first | assumption | omega | ((try simp (disch := omega) only [w32_of, w64_of, w8_of]) <;> first | assumption | omega | (split <;> omega) | (refine And.intro ?_ ?_ <;> split <;> omega)) | omega) (by (try dsimp only) <;> first | assumption | omega | ((try simp (disch := omega) only [w32_of, w64_of, w8_of]) <;> first | assumption | omega | (split <;> omega) | (refine And.intro ?_ ?_ <;> split <;> omega)) | omega) (by (try dsimp only) <;> first | assumption | omega | ((try simp (disch := omega) only [w32_of, w64_of, w8_of]) <;> first | assumption | omega | (split <;> omega) | (refine And.intro ?_ ?_ <;> split <;> omega)) | omega) (by (try dsimp only) <;> first | assumption | omega | ((try simp (disch := omega) only [w32_of, w64_of, w8_of]) <;> first | assumption | omega | (split <;> omega) | (refine And.intro ?_ ?_ <;> split <;> omega)) | omega)) ?_
    rintro σ_8 - ⟨hσ_8, flσ_8, g8, g9⟩
    have frσ_8 : FR [kR_limbs, kR_sign, kR_thrown, kR_w] σ σ_8 := FR_tr frσ_4 flσ_8 (by decide) (by decide)
    have rgσ_8_0 : RG σ_8 0 (dfb_ σ_4 true j_0 i_0) 67 := g8
    have kpσ_8 := g9
    refine wp_bd (v_between (σ := σ_8) (to_0 := 1) (isX_0 := false) (p_0 := k_0) (q_0 := i_0) hσ_8 (by (try dsimp only) <;> first | assumption | omega | ((try simp (disch := omega) only [w32_of, w64_of, w8_of]) <;> first | assumption | omega | (split <;> omega) | (refine And.intro ?_ ?_ <;> split <;> omega)) | omega) (by (try dsimp only) <;> first | assumption | omega | ((try simp (disch := omega) only [w32_of, w64_of, w8_of]) <;> first | assumption | omega | (split <;> omega) | (refine And.intro ?_ ?_ <;> split <;> omega)) | omega) (by (try dsimp only) <;> first | assumption | omega | ((try simp (disch := omega) only [w32_of, w64_of, w8_of]) <;> first | assumption | omega | (split <;> omega) | (refine And.intro ?_ ?_ <;> split <;> omega)) | omega) (by (try dsimp only) <;> first | assumption | omega | ((try simp (disch := omega) only [w32_of, w64_of, w8_of]) <;> first | assumption | omega | (split <;> omega) | (refine And.intro ?_ ?_ <;> split <;> omega)) | omega) (by (try dsimp only) <;> first | assumption | omega | ((try simp (disch := omega) only [w32_of, w64_of, w8_of]) <;> first | assumption | omega | (split <;> omega) | (refine And.intro ?_ ?_ <;> split <;> omega)) | omega) (by (try dsimp only) <;> first | assumption | omega | ((try simp (disch := omega) only [w32_of, w64_of, w8_of]) <;> first | assumption | omega | (split <;> omega) | (refine And.intro ?_ ?_ <;> split <;> omega)) | omega)) ?_
    rintro σ_10 - ⟨hσ_10, flσ_10, g10, g11⟩
    have frσ_10 : FR [kR_limbs, kR_sign, kR_thrown, kR_w] σ σ_10 := FR_tr frσ_8 flσ_10 (by decide) (by decide)
    have rgσ_10_1 : RG σ_10 1 (dfb_ σ_8 false k_0 i_0) 67 := g10
    have kpσ_10 := g11
    have rgσ_10_0 : RG σ_10 0 (dfb_ σ_4 true j_0 i_0) 67 := g11 0 _ _ (by decide) (by decide) (by decide) rgσ_8_0
    refine wp_bd (v_between (σ := σ_10) (to_0 := 2) (isX_0 := false) (p_0 := j_0) (q_0 := i_0) hσ_10 (by (try dsimp only) <;> first | assumption | omega | ((try simp (disch := omega) only [w32_of, w64_of, w8_of]) <;> first | assumption | omega | (split <;> omega) | (refine And.intro ?_ ?_ <;> split <;> omega)) | omega) (by (try dsimp only) <;> first | assumption | omega | ((try simp (disch := omega) only [w32_of, w64_of, w8_of]) <;> first | assumption | omega | (split <;> omega) | (refine And.intro ?_ ?_ <;> split <;> omega)) | omega) (by (try dsimp only) <;> first | assumption | omega | ((try simp (disch := omega) only [w32_of, w64_of, w8_of]) <;> first | assumption | omega | (split <;> omega) | (refine And.intro ?_ ?_ <;> split <;> omega)) | omega) (by (try dsimp only) <;> first | assumption | omega | ((try simp (disch := omega) only [w32_of, w64_of, w8_of]) <;> first | assumption | omega | (split <;> omega) | (refine And.intro ?_ ?_ <;> split <;> omega)) | omega) (by (try dsimp only) <;> first | assumption | omega | ((try simp (disch := omega) only [w32_of, w64_of, w8_of]) <;> first | assumption | omega | (split <;> omega) | (refine And.intro ?_ ?_ <;> split <;> omega)) | omega) (by (try dsimp only) <;> first | assumption | omega | ((try simp (disch := omega) only [w32_of, w64_of, w8_of]) <;> first | assumption | omega | (split <;> omega) | (refine And.intro ?_ ?_ <;> split <;> omega)) | omega)) ?_
    rintro σ_12 - ⟨hσ_12, flσ_12, g12, g13⟩
    have frσ_12 : FR [kR_limbs, kR_sign, kR_thrown, kR_w] σ σ_12 := FR_tr frσ_10 flσ_12 (by decide) (by decide)
    have rgσ_12_2 : RG σ_12 2 (dfb_ σ_10 false j_0 i_0) 67 := g12
    have kpσ_12 := g13
    have rgσ_12_1 : RG σ_12 1 (dfb_ σ_8 false k_0 i_0) 67 := g13 1 _ _ (by decide) (by decide) (by decide) rgσ_10_1
    have rgσ_12_0 : RG σ_12 0 (dfb_ σ_4 true j_0 i_0) 67 := g13 0 _ _ (by decide) (by decide) (by decide) rgσ_10_0
    refine wp_bd (v_between (σ := σ_12) (to_0 := 3) (isX_0 := true) (p_0 := k_0) (q_0 := i_0) hσ_12 (by (try dsimp only) <;> first | assumption | omega | ((try simp (disch := omega) only [w32_of, w64_of, w8_of]) <;> first | assumption | omega | (split <;> omega) | (refine And.intro ?_ ?_ <;> split <;> omega)) | omega) (by (try dsimp only) <;> first | assumption | omega | ((try simp (disch := omega) only [w32_of, w64_of, w8_of]) <;> first | assumption | omega | (split <;> omega) | (refine And.intro ?_ ?_ <;> split <;> omega)) | omega) (by (try dsimp only) <;> first | assumption | omega | ((try simp (disch := omega) only [w32_of, w64_of, w8_of]) <;> first | assumption | omega | (split <;> omega) | (refine And.intro ?_ ?_ <;> split <;> omega)) | omega) (by (try dsimp only) <;> first | assumption | omega | ((try simp (disch := omega) only [w32_of, w64_of, w8_of]) <;> first | assumption | omega | (split <;> omega) | (refine And.intro ?_ ?_ <;> split <;> omega)) | omega) (by (try dsimp only) <;> first | assumption | omega | ((try simp (disch := omega) only [w32_of, w64_of, w8_of]) <;> first | assumption | omega | (split <;> omega) | (refine And.intro ?_ ?_ <;> split <;> omega)) | omega) (by (try dsimp only) <;> first | assumption | omega | ((try simp (disch := omega) only [w32_of, w64_of, w8_of]) <;> first | assumption | omega | (split <;> omega) | (refine And.intro ?_ ?_ <;> split <;> omega)) | omega)) ?_
    rintro σ_14 - ⟨hσ_14, flσ_14, g14, g15⟩
    have frσ_14 : FR [kR_limbs, kR_sign, kR_thrown, kR_w] σ σ_14 := FR_tr frσ_12 flσ_14 (by decide) (by decide)
    have rgσ_14_3 : RG σ_14 3 (dfb_ σ_12 true k_0 i_0) 67 := g14
    have kpσ_14 := g15
    have rgσ_14_2 : RG σ_14 2 (dfb_ σ_10 false j_0 i_0) 67 := g15 2 _ _ (by decide) (by decide) (by decide) rgσ_12_2
    have rgσ_14_1 : RG σ_14 1 (dfb_ σ_8 false k_0 i_0) 67 := g15 1 _ _ (by decide) (by decide) (by decide) rgσ_12_1
    have rgσ_14_0 : RG σ_14 0 (dfb_ σ_4 true j_0 i_0) 67 := g15 0 _ _ (by decide) (by decide) (by decide) rgσ_12_0
    refine wp_bd (g_times (σ := σ_14) (t := 4) (a := 0) (b := 1) hσ_14 (by (try dsimp only) <;> first | assumption | omega | ((try simp (disch := omega) only [w32_of, w64_of, w8_of]) <;> first | assumption | omega | (split <;> omega) | (refine And.intro ?_ ?_ <;> split <;> omega)) | omega) (by (try dsimp only) <;> first | assumption | omega | ((try simp (disch := omega) only [w32_of, w64_of, w8_of]) <;> first | assumption | omega | (split <;> omega) | (refine And.intro ?_ ?_ <;> split <;> omega)) | omega) (by (try dsimp only) <;> first | assumption | omega | ((try simp (disch := omega) only [w32_of, w64_of, w8_of]) <;> first | assumption | omega | (split <;> omega) | (refine And.intro ?_ ?_ <;> split <;> omega)) | omega) (by (try dsimp only) <;> first | assumption | omega | ((try simp (disch := omega) only [w32_of, w64_of, w8_of]) <;> first | assumption | omega | (split <;> omega) | (refine And.intro ?_ ?_ <;> split <;> omega)) | omega) (by (try dsimp only) <;> first | assumption | omega | ((try simp (disch := omega) only [w32_of, w64_of, w8_of]) <;> first | assumption | omega | (split <;> omega) | (refine And.intro ?_ ?_ <;> split <;> omega)) | omega) (by (try dsimp only) <;> first | assumption | omega | ((try simp (disch := omega) only [w32_of, w64_of, w8_of]) <;> first | assumption | omega | (split <;> omega) | (refine And.intro ?_ ?_ <;> split <;> omega)) | omega) (by (try dsimp only) <;> first | assumption | omega | ((try simp (disch := omega) only [w32_of, w64_of, w8_of]) <;> first | assumption | omega | (split <;> omega) | (refine And.intro ?_ ?_ <;> split <;> omega)) | omega) (by (try dsimp only) <;> first | assumption | omega | ((try simp (disch := omega) only [w32_of, w64_of, w8_of]) <;> first | assumption | omega | (split <;> omega) | (refine And.intro ?_ ?_ <;> split <;> omega)) | omega) rgσ_14_0 rgσ_14_1 (by decide)) ?_
    rintro σ_16 - ⟨hσ_16, flσ_16, g16, g17⟩
    have frσ_16 : FR [kR_limbs, kR_sign, kR_thrown, kR_w] σ σ_16 := FR_tr frσ_14 flσ_16 (by decide) (by decide)
    have rgσ_16_4 : RG σ_16 4 ((dfb_ σ_4 true j_0 i_0) * (dfb_ σ_8 false k_0 i_0)) 134 := g16
    have kpσ_16 := g17
    have rgσ_16_3 : RG σ_16 3 (dfb_ σ_12 true k_0 i_0) 67 := g17 3 _ _ (by omega) (by omega) (by omega) rgσ_14_3
    have rgσ_16_2 : RG σ_16 2 (dfb_ σ_10 false j_0 i_0) 67 := g17 2 _ _ (by omega) (by omega) (by omega) rgσ_14_2
    have rgσ_16_1 : RG σ_16 1 (dfb_ σ_8 false k_0 i_0) 67 := g17 1 _ _ (by omega) (by omega) (by omega) rgσ_14_1
    have rgσ_16_0 : RG σ_16 0 (dfb_ σ_4 true j_0 i_0) 67 := g17 0 _ _ (by omega) (by omega) (by omega) rgσ_14_0
    refine wp_bd (g_times (σ := σ_16) (t := 5) (a := 2) (b := 3) hσ_16 (by (try dsimp only) <;> first | assumption | omega | ((try simp (disch := omega) only [w32_of, w64_of, w8_of]) <;> first | assumption | omega | (split <;> omega) | (refine And.intro ?_ ?_ <;> split <;> omega)) | omega) (by (try dsimp only) <;> first | assumption | omega | ((try simp (disch := omega) only [w32_of, w64_of, w8_of]) <;> first | assumption | omega | (split <;> omega) | (refine And.intro ?_ ?_ <;> split <;> omega)) | omega) (by (try dsimp only) <;> first | assumption | omega | ((try simp (disch := omega) only [w32_of, w64_of, w8_of]) <;> first | assumption | omega | (split <;> omega) | (refine And.intro ?_ ?_ <;> split <;> omega)) | omega) (by (try dsimp only) <;> first | assumption | omega | ((try simp (disch := omega) only [w32_of, w64_of, w8_of]) <;> first | assumption | omega | (split <;> omega) | (refine And.intro ?_ ?_ <;> split <;> omega)) | omega) (by (try dsimp only) <;> first | assumption | omega | ((try simp (disch := omega) only [w32_of, w64_of, w8_of]) <;> first | assumption | omega | (split <;> omega) | (refine And.intro ?_ ?_ <;> split <;> omega)) | omega) (by (try dsimp only) <;> first | assumption | omega | ((try simp (disch := omega) only [w32_of, w64_of, w8_of]) <;> first | assumption | omega | (split <;> omega) | (refine And.intro ?_ ?_ <;> split <;> omega)) | omega) (by (try dsimp only) <;> first | assumption | omega | ((try simp (disch := omega) only [w32_of, w64_of, w8_of]) <;> first | assumption | omega | (split <;> omega) | (refine And.intro ?_ ?_ <;> split <;> omega)) | omega) (by (try dsimp only) <;> first | assumption | omega | ((try simp (disch := omega) only [w32_of, w64_of, w8_of]) <;> first | assumption | omega | (split <;> omega) | (refine And.intro ?_ ?_ <;> split <;> omega)) | omega) rgσ_16_2 rgσ_16_3 (by decide)) ?_
    rintro σ_18 - ⟨hσ_18, flσ_18, g18, g19⟩
    have frσ_18 : FR [kR_limbs, kR_sign, kR_thrown, kR_w] σ σ_18 := FR_tr frσ_16 flσ_18 (by decide) (by decide)
    have rgσ_18_5 : RG σ_18 5 ((dfb_ σ_10 false j_0 i_0) * (dfb_ σ_12 true k_0 i_0)) 134 := g18
    have kpσ_18 := g19
    have rgσ_18_4 : RG σ_18 4 ((dfb_ σ_4 true j_0 i_0) * (dfb_ σ_8 false k_0 i_0)) 134 := g19 4 _ _ (by omega) (by omega) (by omega) rgσ_16_4
    have rgσ_18_3 : RG σ_18 3 (dfb_ σ_12 true k_0 i_0) 67 := g19 3 _ _ (by omega) (by omega) (by omega) rgσ_16_3
    have rgσ_18_2 : RG σ_18 2 (dfb_ σ_10 false j_0 i_0) 67 := g19 2 _ _ (by omega) (by omega) (by omega) rgσ_16_2
    have rgσ_18_1 : RG σ_18 1 (dfb_ σ_8 false k_0 i_0) 67 := g19 1 _ _ (by omega) (by omega) (by omega) rgσ_16_1
    have rgσ_18_0 : RG σ_18 0 (dfb_ σ_4 true j_0 i_0) 67 := g19 0 _ _ (by omega) (by omega) (by omega) rgσ_16_0
    refine wp_bd (g_add (σ := σ_18) (t := 6) (a := 4) (b := 5) (less := true) hσ_18 (by (try dsimp only) <;> first | assumption | omega | ((try simp (disch := omega) only [w32_of, w64_of, w8_of]) <;> first | assumption | omega | (split <;> omega) | (refine And.intro ?_ ?_ <;> split <;> omega)) | omega) (by (try dsimp only) <;> first | assumption | omega | ((try simp (disch := omega) only [w32_of, w64_of, w8_of]) <;> first | assumption | omega | (split <;> omega) | (refine And.intro ?_ ?_ <;> split <;> omega)) | omega) (by (try dsimp only) <;> first | assumption | omega | ((try simp (disch := omega) only [w32_of, w64_of, w8_of]) <;> first | assumption | omega | (split <;> omega) | (refine And.intro ?_ ?_ <;> split <;> omega)) | omega) (by (try dsimp only) <;> first | assumption | omega | ((try simp (disch := omega) only [w32_of, w64_of, w8_of]) <;> first | assumption | omega | (split <;> omega) | (refine And.intro ?_ ?_ <;> split <;> omega)) | omega) (by (try dsimp only) <;> first | assumption | omega | ((try simp (disch := omega) only [w32_of, w64_of, w8_of]) <;> first | assumption | omega | (split <;> omega) | (refine And.intro ?_ ?_ <;> split <;> omega)) | omega) (by (try dsimp only) <;> first | assumption | omega | ((try simp (disch := omega) only [w32_of, w64_of, w8_of]) <;> first | assumption | omega | (split <;> omega) | (refine And.intro ?_ ?_ <;> split <;> omega)) | omega) (RG_le rgσ_18_4 (by decide : (134 : Int) ≤ 134)) (RG_le rgσ_18_5 (by decide : (134 : Int) ≤ 134)) (by decide)) ?_
    rintro σ_20 - ⟨hσ_20, flσ_20, g20, g21⟩
    have frσ_20 : FR [kR_limbs, kR_sign, kR_thrown, kR_w] σ σ_20 := FR_tr frσ_18 flσ_20 (by decide) (by decide)
    have rgσ_20_6 : RG σ_20 6 (((dfb_ σ_4 true j_0 i_0) * (dfb_ σ_8 false k_0 i_0)) - ((dfb_ σ_10 false j_0 i_0) * (dfb_ σ_12 true k_0 i_0))) 135 := g20
    have kpσ_20 := g21
    have rgσ_20_5 : RG σ_20 5 ((dfb_ σ_10 false j_0 i_0) * (dfb_ σ_12 true k_0 i_0)) 134 := g21 5 _ _ (by omega) (by omega) (by omega) rgσ_18_5
    have rgσ_20_4 : RG σ_20 4 ((dfb_ σ_4 true j_0 i_0) * (dfb_ σ_8 false k_0 i_0)) 134 := g21 4 _ _ (by omega) (by omega) (by omega) rgσ_18_4
    have rgσ_20_3 : RG σ_20 3 (dfb_ σ_12 true k_0 i_0) 67 := g21 3 _ _ (by omega) (by omega) (by omega) rgσ_18_3
    have rgσ_20_2 : RG σ_20 2 (dfb_ σ_10 false j_0 i_0) 67 := g21 2 _ _ (by omega) (by omega) (by omega) rgσ_18_2
    have rgσ_20_1 : RG σ_20 1 (dfb_ σ_8 false k_0 i_0) 67 := g21 1 _ _ (by omega) (by omega) (by omega) rgσ_18_1
    have rgσ_20_0 : RG σ_20 0 (dfb_ σ_4 true j_0 i_0) 67 := g21 0 _ _ (by omega) (by omega) (by omega) rgσ_18_0
    refine wp_rdI (by (try dsimp only) <;> first | assumption | omega | ((try simp (disch := omega) only [w32_of, w64_of, w8_of]) <;> first | assumption | omega | (split <;> omega) | (refine And.intro ?_ ?_ <;> split <;> omega)) | omega) (by (try dsimp only) <;> first | assumption | omega | ((try simp (disch := omega) only [w32_of, w64_of, w8_of]) <;> first | assumption | omega | (split <;> omega) | (refine And.intro ?_ ?_ <;> split <;> omega)) | omega) (fun x_21 e_x_21 => ?_)
    have b_x_21 : (-1) ≤ x_21 ∧ x_21 ≤ 1 := by rw [e_x_21]; exact ii_kR_sign hσ_20 _
    try simp (disch := omega) only [w32_of, w64_of, w8_of] at e_x_21
    have c22 := ii_kR_sign hσ_20 6
    exact wp_some ⟨(by (try dsimp only) <;> first | assumption | omega | ((try simp (disch := omega) only [w32_of, w64_of, w8_of]) <;> first | assumption | omega | (split <;> omega) | (refine And.intro ?_ ?_ <;> split <;> omega)) | omega), hσ_20, frσ_20⟩
theorem s_R_circle {σ : SG} {i_0 : Int} {j_0 : Int} {k_0 : Int} {l_0 : Int} (hσ : II σ) (qi_0 : (-2147483648) ≤ i_0 ∧ i_0 ≤ 2147483647) (qj_0 : (-2147483648) ≤ j_0 ∧ j_0 ≤ 2147483647) (qk_0 : (-2147483648) ≤ k_0 ∧ k_0 ≤ 2147483647) (ql_0 : (-2147483648) ≤ l_0 ∧ l_0 ≤ 2147483647) : wp_ (fR_circle σ i_0 j_0 k_0 l_0) (fun zz_ => II zz_.2 ∧ FR [kR_limbs, kR_sign, kR_thrown, kR_w] σ zz_.2) := by
  unfold fR_circle
  refine wp_wfI hσ b_kR_thrown (by (try dsimp only) <;> first | assumption | omega | ((try simp (disch := omega) only [w32_of, w64_of, w8_of]) <;> first | assumption | omega | (split <;> omega) | (refine And.intro ?_ ?_ <;> split <;> omega)) | omega) (fun σ_1 hσ_1 eσ_1 => ?_)
  try simp (disch := omega) only [w32_of, w64_of, w8_of] at eσ_1
  have flσ_1 := FR_sg eσ_1
  have frσ_1 : FR [kR_limbs, kR_sign, kR_thrown, kR_w] σ σ_1 := FR_le flσ_1 (by decide)
  have c3 := ii_kR_thrown hσ_1 0
  have c4 := sg_val eσ_1
  refine wp_fails hσ_1 (by (try dsimp only) <;> first | assumption | omega | ((try simp (disch := omega) only [w32_of, w64_of, w8_of]) <;> first | assumption | omega | (split <;> omega) | (refine And.intro ?_ ?_ <;> split <;> omega)) | omega) (by decide) (fun σ_4 hσ_4 flσ_4 e1 e2 => ?_)
  try dsimp only
  have frσ_4 : FR [kR_limbs, kR_sign, kR_thrown, kR_w] σ σ_4 := FR_tr frσ_1 flσ_4 (by decide) (by decide)
  refine wp_if (fun c5 => ?_) (fun c5 => ?_)
  · have k6 := e1 c5
    try simp (disch := omega) only [w32_of, w64_of, w8_of, decide_eq_true_eq, decide_eq_false_iff_not, Bool.not_eq_true, fR_isPoint] at c5
    exact wp_some ⟨hσ_4, frσ_4⟩
  · have k7 := e2 c5
    try simp (disch := omega) only [w32_of, w64_of, w8_of, decide_eq_true_eq, decide_eq_false_iff_not, Bool.not_eq_true, fR_isPoint] at c5
    refine wp_bd (v_between (σ := σ_4) (to_0 := 0) (isX_0 := true) (p_0 := i_0) (q_0 := l_0) hσ_4 (by (try dsimp only) <;> first | assumption | omega | ((try simp (disch := omega) only [w32_of, w64_of, w8_of]) <;> first | assumption | omega | (split <;> omega) | (refine And.intro ?_ ?_ <;> split <;> omega)) | omega) (by (try dsimp only) <;> first | assumption | omega | ((try simp (disch := omega) only [w32_of, w64_of, w8_of]) <;> first | assumption | omega | (split <;> omega) | (refine And.intro ?_ ?_ <;> split <;> omega)) | omega) (by (try dsimp only) <;> first | assumption | omega | ((try simp (disch := omega) only [w32_of, w64_of, w8_of]) <;> first | assumption | omega | (split <;> omega) | (refine And.intro ?_ ?_ <;> split <;> omega)) | omega) (by (try dsimp only) <;> first | assumption | omega | ((try simp (disch := omega) only [w32_of, w64_of, w8_of]) <;> first | assumption | omega | (split <;> omega) | (refine And.intro ?_ ?_ <;> split <;> omega)) | omega) (by (try dsimp only) <;> first | assumption | omega | ((try simp (disch := omega) only [w32_of, w64_of, w8_of]) <;> first | assumption | omega | (split <;> omega) | (refine And.intro ?_ ?_ <;> split <;> omega)) | omega) (by (try dsimp only) <;> first | assumption | omega | ((try simp (disch := omega) only [w32_of, w64_of, w8_of]) <;> first | assumption | omega | (split <;> omega) | (refine And.intro ?_ ?_ <;> split <;> omega)) | omega)) ?_
    rintro σ_8 - ⟨hσ_8, flσ_8, g8, g9⟩
    have frσ_8 : FR [kR_limbs, kR_sign, kR_thrown, kR_w] σ σ_8 := FR_tr frσ_4 flσ_8 (by decide) (by decide)
    have rgσ_8_0 : RG σ_8 0 (dfb_ σ_4 true i_0 l_0) 67 := g8
    have kpσ_8 := g9
    refine wp_bd (v_between (σ := σ_8) (to_0 := 1) (isX_0 := false) (p_0 := i_0) (q_0 := l_0) hσ_8 (by (try dsimp only) <;> first | assumption | omega | ((try simp (disch := omega) only [w32_of, w64_of, w8_of]) <;> first | assumption | omega | (split <;> omega) | (refine And.intro ?_ ?_ <;> split <;> omega)) | omega) (by (try dsimp only) <;> first | assumption | omega | ((try simp (disch := omega) only [w32_of, w64_of, w8_of]) <;> first | assumption | omega | (split <;> omega) | (refine And.intro ?_ ?_ <;> split <;> omega)) | omega) (by (try dsimp only) <;> first | assumption | omega | ((try simp (disch := omega) only [w32_of, w64_of, w8_of]) <;> first | assumption | omega | (split <;> omega) | (refine And.intro ?_ ?_ <;> split <;> omega)) | omega) (by (try dsimp only) <;> first | assumption | omega | ((try simp (disch := omega) only [w32_of, w64_of, w8_of]) <;> first | assumption | omega | (split <;> omega) | (refine And.intro ?_ ?_ <;> split <;> omega)) | omega) (by (try dsimp only) <;> first | assumption | omega | ((try simp (disch := omega) only [w32_of, w64_of, w8_of]) <;> first | assumption | omega | (split <;> omega) | (refine And.intro ?_ ?_ <;> split <;> omega)) | omega) (by (try dsimp only) <;> first | assumption | omega | ((try simp (disch := omega) only [w32_of, w64_of, w8_of]) <;> first | assumption | omega | (split <;> omega) | (refine And.intro ?_ ?_ <;> split <;> omega)) | omega)) ?_
    rintro σ_10 - ⟨hσ_10, flσ_10, g10, g11⟩
    have frσ_10 : FR [kR_limbs, kR_sign, kR_thrown, kR_w] σ σ_10 := FR_tr frσ_8 flσ_10 (by decide) (by decide)
    have rgσ_10_1 : RG σ_10 1 (dfb_ σ_8 false i_0 l_0) 67 := g10
    have kpσ_10 := g11
    have rgσ_10_0 : RG σ_10 0 (dfb_ σ_4 true i_0 l_0) 67 := g11 0 _ _ (by decide) (by decide) (by decide) rgσ_8_0
    refine wp_bd (v_between (σ := σ_10) (to_0 := 3) (isX_0 := true) (p_0 := j_0) (q_0 := l_0) hσ_10 (by (try dsimp only) <;> first | assumption | omega | ((try simp (disch := omega) only [w32_of, w64_of, w8_of]) <;> first | assumption | omega | (split <;> omega) | (refine And.intro ?_ ?_ <;> split <;> omega)) | omega) (by (try dsimp only) <;> first | assumption | omega | ((try simp (disch := omega) only [w32_of, w64_of, w8_of]) <;> first | assumption | omega | (split <;> omega) | (refine And.intro ?_ ?_ <;> split <;> omega)) | omega) (by (try dsimp only) <;> first | assumption | omega | ((try simp (disch := omega) only [w32_of, w64_of, w8_of]) <;> first | assumption | omega | (split <;> omega) | (refine And.intro ?_ ?_ <;> split <;> omega)) | omega) (by (try dsimp only) <;> first | assumption | omega | ((try simp (disch := omega) only [w32_of, w64_of, w8_of]) <;> first | assumption | omega | (split <;> omega) | (refine And.intro ?_ ?_ <;> split <;> omega)) | omega) (by (try dsimp only) <;> first | assumption | omega | ((try simp (disch := omega) only [w32_of, w64_of, w8_of]) <;> first | assumption | omega | (split <;> omega) | (refine And.intro ?_ ?_ <;> split <;> omega)) | omega) (by (try dsimp only) <;> first | assumption | omega | ((try simp (disch := omega) only [w32_of, w64_of, w8_of]) <;> first | assumption | omega | (split <;> omega) | (refine And.intro ?_ ?_ <;> split <;> omega)) | omega)) ?_
    rintro σ_12 - ⟨hσ_12, flσ_12, g12, g13⟩
    have frσ_12 : FR [kR_limbs, kR_sign, kR_thrown, kR_w] σ σ_12 := FR_tr frσ_10 flσ_12 (by decide) (by decide)
    have rgσ_12_3 : RG σ_12 3 (dfb_ σ_10 true j_0 l_0) 67 := g12
    have kpσ_12 := g13
    have rgσ_12_1 : RG σ_12 1 (dfb_ σ_8 false i_0 l_0) 67 := g13 1 _ _ (by decide) (by decide) (by decide) rgσ_10_1
    have rgσ_12_0 : RG σ_12 0 (dfb_ σ_4 true i_0 l_0) 67 := g13 0 _ _ (by decide) (by decide) (by decide) rgσ_10_0
    refine wp_bd (v_between (σ := σ_12) (to_0 := 4) (isX_0 := false) (p_0 := j_0) (q_0 := l_0) hσ_12 (by (try dsimp only) <;> first | assumption | omega | ((try simp (disch := omega) only [w32_of, w64_of, w8_of]) <;> first | assumption | omega | (split <;> omega) | (refine And.intro ?_ ?_ <;> split <;> omega)) | omega) (by (try dsimp only) <;> first | assumption | omega | ((try simp (disch := omega) only [w32_of, w64_of, w8_of]) <;> first | assumption | omega | (split <;> omega) | (refine And.intro ?_ ?_ <;> split <;> omega)) | omega) (by (try dsimp only) <;> first | assumption | omega | ((try simp (disch := omega) only [w32_of, w64_of, w8_of]) <;> first | assumption | omega | (split <;> omega) | (refine And.intro ?_ ?_ <;> split <;> omega)) | omega) (by (try dsimp only) <;> first | assumption | omega | ((try simp (disch := omega) only [w32_of, w64_of, w8_of]) <;> first | assumption | omega | (split <;> omega) | (refine And.intro ?_ ?_ <;> split <;> omega)) | omega) (by (try dsimp only) <;> first | assumption | omega | ((try simp (disch := omega) only [w32_of, w64_of, w8_of]) <;> first | assumption | omega | (split <;> omega) | (refine And.intro ?_ ?_ <;> split <;> omega)) | omega) (by (try dsimp only) <;> first | assumption | omega | ((try simp (disch := omega) only [w32_of, w64_of, w8_of]) <;> first | assumption | omega | (split <;> omega) | (refine And.intro ?_ ?_ <;> split <;> omega)) | omega)) ?_
    rintro σ_14 - ⟨hσ_14, flσ_14, g14, g15⟩
    have frσ_14 : FR [kR_limbs, kR_sign, kR_thrown, kR_w] σ σ_14 := FR_tr frσ_12 flσ_14 (by decide) (by decide)
    have rgσ_14_4 : RG σ_14 4 (dfb_ σ_12 false j_0 l_0) 67 := g14
    have kpσ_14 := g15
    have rgσ_14_3 : RG σ_14 3 (dfb_ σ_10 true j_0 l_0) 67 := g15 3 _ _ (by decide) (by decide) (by decide) rgσ_12_3
    have rgσ_14_1 : RG σ_14 1 (dfb_ σ_8 false i_0 l_0) 67 := g15 1 _ _ (by decide) (by decide) (by decide) rgσ_12_1
    have rgσ_14_0 : RG σ_14 0 (dfb_ σ_4 true i_0 l_0) 67 := g15 0 _ _ (by decide) (by decide) (by decide) rgσ_12_0
    refine wp_bd (v_between (σ := σ_14) (to_0 := 6) (isX_0 := true) (p_0 := k_0) (q_0 := l_0) hσ_14 (by (try dsimp only) <;> first | assumption | omega | ((try simp (disch := omega) only [w32_of, w64_of, w8_of]) <;> first | assumption | omega | (split <;> omega) | (refine And.intro ?_ ?_ <;> split <;> omega)) | omega) (by (try dsimp only) <;> first | assumption | omega | ((try simp (disch := omega) only [w32_of, w64_of, w8_of]) <;> first | assumption | omega | (split <;> omega) | (refine And.intro ?_ ?_ <;> split <;> omega)) | omega) (by (try dsimp only) <;> first | assumption | omega | ((try simp (disch := omega) only [w32_of, w64_of, w8_of]) <;> first | assumption | omega | (split <;> omega) | (refine And.intro ?_ ?_ <;> split <;> omega)) | omega) (by (try dsimp only) <;> first | assumption | omega | ((try simp (disch := omega) only [w32_of, w64_of, w8_of]) <;> first | assumption | omega | (split <;> omega) | (refine And.intro ?_ ?_ <;> split <;> omega)) | omega) (by (try dsimp only) <;> first | assumption | omega | ((try simp (disch := omega) only [w32_of, w64_of, w8_of]) <;> first | assumption | omega | (split <;> omega) | (refine And.intro ?_ ?_ <;> split <;> omega)) | omega) (by (try dsimp only) <;> first | assumption | omega | ((try simp (disch := omega) only [w32_of, w64_of, w8_of]) <;> first | assumption | omega | (split <;> omega) | (refine And.intro ?_ ?_ <;> split <;> omega)) | omega)) ?_
    rintro σ_16 - ⟨hσ_16, flσ_16, g16, g17⟩
    have frσ_16 : FR [kR_limbs, kR_sign, kR_thrown, kR_w] σ σ_16 := FR_tr frσ_14 flσ_16 (by decide) (by decide)
    have rgσ_16_6 : RG σ_16 6 (dfb_ σ_14 true k_0 l_0) 67 := g16
    have kpσ_16 := g17
    have rgσ_16_4 : RG σ_16 4 (dfb_ σ_12 false j_0 l_0) 67 := g17 4 _ _ (by decide) (by decide) (by decide) rgσ_14_4
    have rgσ_16_3 : RG σ_16 3 (dfb_ σ_10 true j_0 l_0) 67 := g17 3 _ _ (by decide) (by decide) (by decide) rgσ_14_3
    have rgσ_16_1 : RG σ_16 1 (dfb_ σ_8 false i_0 l_0) 67 := g17 1 _ _ (by decide) (by decide) (by decide) rgσ_14_1
    have rgσ_16_0 : RG σ_16 0 (dfb_ σ_4 true i_0 l_0) 67 := g17 0 _ _ (by decide) (by decide) (by decide) rgσ_14_0
    refine wp_bd (v_between (σ := σ_16) (to_0 := 7) (isX_0 := false) (p_0 := k_0) (q_0 := l_0) hσ_16 (by (try dsimp only) <;> first | assumption | omega | ((try simp (disch := omega) only [w32_of, w64_of, w8_of]) <;> first | assumption | omega | (split <;> omega) | (refine And.intro ?_ ?_ <;> split <;> omega)) | omega) (by (try dsimp only) <;> first | assumption | omega | ((try simp (disch := omega) only [w32_of, w64_of, w8_of]) <;> first | assumption | omega | (split <;> omega) | (refine And.intro ?_ ?_ <;> split <;> omega)) | omega) (by (try dsimp only) <;> first | assumption | omega | ((try simp (disch := omega) only [w32_of, w64_of, w8_of]) <;> first | assumption | omega | (split <;> omega) | (refine And.intro ?_ ?_ <;> split <;> omega)) | omega) (by (try dsimp only) <;> first | assumption | omega | ((try simp (disch := omega) only [w32_of, w64_of, w8_of]) <;> first | assumption | omega | (split <;> omega) | (refine And.intro ?_ ?_ <;> split <;> omega)) | omega) (by (try dsimp only) <;> first | assumption | omega | ((try simp (disch := omega) only [w32_of, w64_of, w8_of]) <;> first | assumption | omega | (split <;> omega) | (refine And.intro ?_ ?_ <;> split <;> omega)) | omega) (by (try dsimp only) <;> first | assumption | omega | ((try simp (disch := omega) only [w32_of, w64_of, w8_of]) <;> first | assumption | omega | (split <;> omega) | (refine And.intro ?_ ?_ <;> split <;> omega)) | omega)) ?_
    rintro σ_18 - ⟨hσ_18, flσ_18, g18, g19⟩
    have frσ_18 : FR [kR_limbs, kR_sign, kR_thrown, kR_w] σ σ_18 := FR_tr frσ_16 flσ_18 (by decide) (by decide)
    have rgσ_18_7 : RG σ_18 7 (dfb_ σ_16 false k_0 l_0) 67 := g18
    have kpσ_18 := g19
    have rgσ_18_6 : RG σ_18 6 (dfb_ σ_14 true k_0 l_0) 67 := g19 6 _ _ (by decide) (by decide) (by decide) rgσ_16_6
    have rgσ_18_4 : RG σ_18 4 (dfb_ σ_12 false j_0 l_0) 67 := g19 4 _ _ (by decide) (by decide) (by decide) rgσ_16_4
    have rgσ_18_3 : RG σ_18 3 (dfb_ σ_10 true j_0 l_0) 67 := g19 3 _ _ (by decide) (by decide) (by decide) rgσ_16_3
    have rgσ_18_1 : RG σ_18 1 (dfb_ σ_8 false i_0 l_0) 67 := g19 1 _ _ (by decide) (by decide) (by decide) rgσ_16_1
    have rgσ_18_0 : RG σ_18 0 (dfb_ σ_4 true i_0 l_0) 67 := g19 0 _ _ (by decide) (by decide) (by decide) rgσ_16_0
    refine wp_bd (P := fun rr_ => (3 ≤ rr_.1 ∧ rr_.1 ≤ 3) ∧ II rr_.2 ∧ FR [kR_limbs, kR_sign, kR_thrown, kR_w] σ rr_.2 ∧ (RS9 rr_.2 3 (dfb_ σ_4 true i_0 l_0) (dfb_ σ_8 false i_0 l_0) (dfb_ σ_10 true j_0 l_0) (dfb_ σ_12 false j_0 l_0) (dfb_ σ_14 true k_0 l_0) (dfb_ σ_16 false k_0 l_0))) ?_ ?_
    · refine wp_whl (fun ss_ => II ss_.2 ∧ FR [kR_limbs, kR_sign, kR_thrown, kR_w] σ ss_.2 ∧ (0 ≤ ss_.1 ∧ ss_.1 ≤ 3) ∧ (RS9 ss_.2 ss_.1 (dfb_ σ_4 true i_0 l_0) (dfb_ σ_8 false i_0 l_0) (dfb_ σ_10 true j_0 l_0) (dfb_ σ_12 false j_0 l_0) (dfb_ σ_14 true k_0 l_0) (dfb_ σ_16 false k_0 l_0))) (fun ss_ => (3 - ss_.1).toNat) ⟨hσ_18, frσ_18, (by (try dsimp only) <;> first | assumption | omega | ((try simp (disch := omega) only [w32_of, w64_of, w8_of]) <;> first | assumption | omega | (split <;> omega) | (refine And.intro ?_ ?_ <;> split <;> omega)) | omega), (by (try dsimp only) <;> (first | exact gs | exact ⟨⟨rgσ_18_0, rgσ_18_1, rgσ_18_3, rgσ_18_4, rgσ_18_6, rgσ_18_7⟩, fun z => absurd z (by decide), fun z => absurd z (by decide), fun z => absurd z (by decide)⟩))⟩ ?_
      rintro ⟨row_19, σ_20⟩ y21
      try dsimp only at y21 ⊢
      obtain ⟨hσ_20, frσ_20, g20, gr⟩ := y21
      have c23 := w32_rng row_19
      refine wp_if (fun c22 => ?_) (fun c22 => ?_)
      · try simp (disch := omega) only [w32_of, w64_of, w8_of, decide_eq_true_eq, decide_eq_false_iff_not, Bool.not_eq_true] at c22
        refine wp_bd (s_R_squares (σ := σ_20) (row_0 := row_19) (x1 := (dfb_ σ_4 true i_0 l_0)) (y1 := (dfb_ σ_8 false i_0 l_0)) (x2 := (dfb_ σ_10 true j_0 l_0)) (y2 := (dfb_ σ_12 false j_0 l_0)) (x3 := (dfb_ σ_14 true k_0 l_0)) (y3 := (dfb_ σ_16 false k_0 l_0)) hσ_20 (by (try dsimp only) <;> first | assumption | omega | ((try simp (disch := omega) only [w32_of, w64_of, w8_of]) <;> first | assumption | omega | (split <;> omega) | (refine And.intro ?_ ?_ <;> split <;> omega)) | omega) (by (try dsimp only) <;> first | assumption | omega | ((try simp (disch := omega) only [w32_of, w64_of, w8_of]) <;> first | assumption | omega | (split <;> omega) | (refine And.intro ?_ ?_ <;> split <;> omega)) | omega)) ?_
        rintro σ_30 - ⟨hσ_30, flσ_30, gs⟩
        have frσ_30 : FR [kR_limbs, kR_sign, kR_thrown, kR_w] σ σ_30 := FR_tr frσ_20 flσ_30 (by decide) (by decide)
        try simp (disch := omega) only [w32_of, w64_of, w8_of] at gs
        exact wp_some (x_inl ⟨⟨hσ_30, frσ_30, (by (try dsimp only) <;> first | assumption | omega | ((try simp (disch := omega) only [w32_of, w64_of, w8_of]) <;> first | assumption | omega | (split <;> omega) | (refine And.intro ?_ ?_ <;> split <;> omega)) | omega), (by (try dsimp only) <;> (first | exact gs | exact ⟨⟨rgσ_18_0, rgσ_18_1, rgσ_18_3, rgσ_18_4, rgσ_18_6, rgσ_18_7⟩, fun z => absurd z (by decide), fun z => absurd z (by decide), fun z => absurd z (by decide)⟩))⟩, (by (try dsimp only) <;> first | assumption | omega | ((try simp (disch := omega) only [w32_of, w64_of, w8_of]) <;> first | assumption | omega | (split <;> omega) | (refine And.intro ?_ ?_ <;> split <;> omega)) | omega)⟩)
      · try simp (disch := omega) only [w32_of, w64_of, w8_of, decide_eq_true_eq, decide_eq_false_iff_not, Bool.not_eq_true] at c22
        exact wp_some (x_inr ⟨(by (try dsimp only) <;> first | assumption | omega | ((try simp (disch := omega) only [w32_of, w64_of, w8_of]) <;> first | assumption | omega | (split <;> omega) | (refine And.intro ?_ ?_ <;> split <;> omega)) | omega), hσ_20, frσ_20, (by (try dsimp only) <;> ((have z : row_19 = 3 := by omega); rw [z] at gr; exact gr))⟩)
    rintro ⟨row_33, σ_34⟩ _ y25
    try dsimp only at y25 ⊢
    obtain ⟨g24, hσ_34, frσ_34, gr⟩ := y25
    refine wp_bd (s_R_determinant (σ := σ_34) (x1 := (dfb_ σ_4 true i_0 l_0)) (y1 := (dfb_ σ_8 false i_0 l_0)) (x2 := (dfb_ σ_10 true j_0 l_0)) (y2 := (dfb_ σ_12 false j_0 l_0)) (x3 := (dfb_ σ_14 true k_0 l_0)) (y3 := (dfb_ σ_16 false k_0 l_0)) hσ_34 (by (try dsimp only) <;> first | assumption | omega | ((try simp (disch := omega) only [w32_of, w64_of, w8_of]) <;> first | assumption | omega | (split <;> omega) | (refine And.intro ?_ ?_ <;> split <;> omega)) | omega)) ?_
    rintro ⟨x_37, σ_36⟩ - y26
    try dsimp only at y26 ⊢
    obtain ⟨hσ_36, flσ_36, gd1, gd2, gd3⟩ := y26
    have frσ_36 : FR [kR_limbs, kR_sign, kR_thrown, kR_w] σ σ_36 := FR_tr frσ_34 flσ_36 (by decide) (by decide)
    try simp (disch := omega) only [w32_of, w64_of, w8_of] at gd1
    try simp (disch := omega) only [w32_of, w64_of, w8_of] at gd2
    try simp (disch := omega) only [w32_of, w64_of, w8_of] at gd3
    exact wp_some ⟨hσ_36, frσ_36⟩
