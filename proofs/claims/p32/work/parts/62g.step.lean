section STEP
theorem scr_b (xs : Nat → Int32) (i : Int) : (-2147483648) ≤ scr xs i ∧ scr xs i ≤ 2147483647 := by
  unfold scr
  have h1 := (xs i.toNat).le_toInt
  have h2 := (xs i.toNat).toInt_lt
  omega
theorem step_0 {ρ σ : SG} {xs : Nat → Int32} {L : Nat} {i_0 : Int} (hσ : INK ρ σ) (h1 : 1 ≤ i_0) (h2 : i_0 + 5 < (L : Int)) (hL : L ≤ 3073) : wp_ (fS_0 σ xs L i_0) (fun r => r.1 = true ∧ INK ρ r.2) := by
  unfold fS_0
  refine wp_ck (by rw [w32_of (by omega) (by omega)]; omega) ?_
  refine wp_lt (fun a_1 e_a_1 => ?_)
  have q_a_1 : (-2147483648) ≤ a_1 ∧ a_1 ≤ 2147483647 := by rw [e_a_1]; exact scr_b _ _
  refine wp_ck (by rw [w32_of (by omega) (by omega)]; omega) ?_
  refine wp_lt (fun a_3 e_a_3 => ?_)
  have q_a_3 : (-2147483648) ≤ a_3 ∧ a_3 ≤ 2147483647 := by rw [e_a_3]; exact scr_b _ _
  refine wp_ck (by rw [w32_of (by omega) (by omega)]; omega) ?_
  refine wp_lt (fun a_5 e_a_5 => ?_)
  have q_a_5 : (-2147483648) ≤ a_5 ∧ a_5 ≤ 2147483647 := by rw [e_a_5]; exact scr_b _ _
  refine wp_ck (by rw [w32_of (by omega) (by omega)]; omega) ?_
  refine wp_lt (fun a_7 e_a_7 => ?_)
  have q_a_7 : (-2147483648) ≤ a_7 ∧ a_7 ≤ 2147483647 := by rw [e_a_7]; exact scr_b _ _
  refine wp_ck (by rw [w32_of (by omega) (by omega)]; omega) ?_
  refine wp_lt (fun a_9 e_a_9 => ?_)
  have q_a_9 : (-2147483648) ≤ a_9 ∧ a_9 ≤ 2147483647 := by rw [e_a_9]; exact scr_b _ _
  refine wp_bd (jL_feed hσ (by first | exact q_a_1 | exact w32_rng _ | exact q_lor_rng _ _) (by first | exact q_a_3 | exact w32_rng _ | exact q_lor_rng _ _) (by first | exact q_a_5 | exact w32_rng _ | exact q_lor_rng _ _) (by first | exact q_a_7 | exact w32_rng _ | exact q_lor_rng _ _) (by first | exact q_a_9 | exact w32_rng _ | exact q_lor_rng _ _)) ?_
  rintro ⟨x_13, σ_12⟩ _ hσ_12
  replace hσ_12 : INK ρ σ_12 := hσ_12
  dsimp only
  refine wp_ck (by rw [w32_of (by omega) (by omega)]; omega) ?_
  refine wp_lt (fun a_14 e_a_14 => ?_)
  have q_a_14 : (-2147483648) ≤ a_14 ∧ a_14 ≤ 2147483647 := by rw [e_a_14]; exact scr_b _ _
  refine wp_ck (by rw [w32_of (by omega) (by omega)]; omega) ?_
  refine wp_lt (fun a_16 e_a_16 => ?_)
  have q_a_16 : (-2147483648) ≤ a_16 ∧ a_16 ≤ 2147483647 := by rw [e_a_16]; exact scr_b _ _
  refine wp_ck (by rw [w32_of (by omega) (by omega)]; omega) ?_
  refine wp_lt (fun a_18 e_a_18 => ?_)
  have q_a_18 : (-2147483648) ≤ a_18 ∧ a_18 ≤ 2147483647 := by rw [e_a_18]; exact scr_b _ _
  refine wp_ck (by rw [w32_of (by omega) (by omega)]; omega) ?_
  refine wp_lt (fun a_20 e_a_20 => ?_)
  have q_a_20 : (-2147483648) ≤ a_20 ∧ a_20 ≤ 2147483647 := by rw [e_a_20]; exact scr_b _ _
  refine wp_ck (by rw [w32_of (by omega) (by omega)]; omega) ?_
  refine wp_lt (fun a_22 e_a_22 => ?_)
  have q_a_22 : (-2147483648) ≤ a_22 ∧ a_22 ≤ 2147483647 := by rw [e_a_22]; exact scr_b _ _
  refine wp_bd (jR_feed hσ_12 (by first | exact q_a_14 | exact w32_rng _ | exact q_lor_rng _ _) (by first | exact q_a_16 | exact w32_rng _ | exact q_lor_rng _ _) (by first | exact q_a_18 | exact w32_rng _ | exact q_lor_rng _ _) (by first | exact q_a_20 | exact w32_rng _ | exact q_lor_rng _ _) (by first | exact q_a_22 | exact w32_rng _ | exact q_lor_rng _ _)) ?_
  rintro ⟨x_26, σ_25⟩ _ hσ_25
  replace hσ_25 : INK ρ σ_25 := hσ_25
  dsimp only
  exact wp_some ⟨rfl, hσ_25⟩
theorem step_1 {ρ σ : SG} {xs : Nat → Int32} {L : Nat} {i_0 : Int} (hσ : INK ρ σ) (h1 : 1 ≤ i_0) (h2 : i_0 + 5 < (L : Int)) (hL : L ≤ 3073) : wp_ (fS_1 σ xs L i_0) (fun r => r.1 = true ∧ INK ρ r.2) := by
  unfold fS_1
  refine wp_ck (by rw [w32_of (by omega) (by omega)]; omega) ?_
  refine wp_lt (fun a_1 e_a_1 => ?_)
  have q_a_1 : (-2147483648) ≤ a_1 ∧ a_1 ≤ 2147483647 := by rw [e_a_1]; exact scr_b _ _
  refine wp_bd (jL_end hσ (by first | exact q_a_1 | exact w32_rng _ | exact q_lor_rng _ _)) ?_
  rintro ⟨x_5, σ_4⟩ _ hσ_4
  replace hσ_4 : INK ρ σ_4 := hσ_4
  dsimp only
  refine wp_ck (by rw [w32_of (by omega) (by omega)]; omega) ?_
  refine wp_lt (fun a_6 e_a_6 => ?_)
  have q_a_6 : (-2147483648) ≤ a_6 ∧ a_6 ≤ 2147483647 := by rw [e_a_6]; exact scr_b _ _
  refine wp_bd (jR_end hσ_4 (by first | exact q_a_6 | exact w32_rng _ | exact q_lor_rng _ _)) ?_
  rintro ⟨x_10, σ_9⟩ _ hσ_9
  replace hσ_9 : INK ρ σ_9 := hσ_9
  dsimp only
  exact wp_some ⟨rfl, hσ_9⟩
theorem step_2 {ρ σ : SG} {xs : Nat → Int32} {L : Nat} {i_0 : Int} (hσ : INK ρ σ) (h1 : 1 ≤ i_0) (h2 : i_0 + 5 < (L : Int)) (hL : L ≤ 3073) : wp_ (fS_2 σ xs L i_0) (fun r => r.1 = true ∧ INK ρ r.2) := by
  unfold fS_2
  refine wp_bd (jQ_again hσ ) ?_
  rintro ⟨x_3, σ_2⟩ _ hσ_2
  replace hσ_2 : INK ρ σ_2 := hσ_2
  dsimp only
  refine wp_bd (jR_again hσ_2 ) ?_
  rintro ⟨x_6, σ_5⟩ _ hσ_5
  replace hσ_5 : INK ρ σ_5 := hσ_5
  dsimp only
  exact wp_some ⟨rfl, hσ_5⟩
theorem step_3 {ρ σ : SG} {xs : Nat → Int32} {L : Nat} {i_0 : Int} (hσ : INK ρ σ) (h1 : 1 ≤ i_0) (h2 : i_0 + 5 < (L : Int)) (hL : L ≤ 3073) : wp_ (fS_3 σ xs L i_0) (fun r => r.1 = true ∧ INK ρ r.2) := by
  unfold fS_3
  refine wp_ck (by rw [w32_of (by omega) (by omega)]; omega) ?_
  refine wp_lt (fun a_1 e_a_1 => ?_)
  have q_a_1 : (-2147483648) ≤ a_1 ∧ a_1 ≤ 2147483647 := by rw [e_a_1]; exact scr_b _ _
  refine wp_bd (jL_readWords hσ (by first | exact q_a_1 | exact w32_rng _ | exact q_lor_rng _ _)) ?_
  rintro ⟨x_5, σ_4⟩ _ hσ_4
  replace hσ_4 : INK ρ σ_4 := hσ_4
  dsimp only
  refine wp_ck (by rw [w32_of (by omega) (by omega)]; omega) ?_
  refine wp_lt (fun a_6 e_a_6 => ?_)
  have q_a_6 : (-2147483648) ≤ a_6 ∧ a_6 ≤ 2147483647 := by rw [e_a_6]; exact scr_b _ _
  refine wp_bd (jR_readWords hσ_4 (by first | exact q_a_6 | exact w32_rng _ | exact q_lor_rng _ _)) ?_
  rintro ⟨x_10, σ_9⟩ _ hσ_9
  replace hσ_9 : INK ρ σ_9 := hσ_9
  dsimp only
  exact wp_some ⟨rfl, hσ_9⟩
theorem step_4 {ρ σ : SG} {xs : Nat → Int32} {L : Nat} {i_0 : Int} (hσ : INK ρ σ) (h1 : 1 ≤ i_0) (h2 : i_0 + 5 < (L : Int)) (hL : L ≤ 3073) : wp_ (fS_4 σ xs L i_0) (fun r => r.1 = true ∧ INK ρ r.2) := by
  unfold fS_4
  refine wp_ck (by rw [w32_of (by omega) (by omega)]; omega) ?_
  refine wp_lt (fun a_1 e_a_1 => ?_)
  have q_a_1 : (-2147483648) ≤ a_1 ∧ a_1 ≤ 2147483647 := by rw [e_a_1]; exact scr_b _ _
  refine wp_bd (jL_readBytes hσ (by first | exact q_a_1 | exact w32_rng _ | exact q_lor_rng _ _)) ?_
  rintro ⟨x_5, σ_4⟩ _ hσ_4
  replace hσ_4 : INK ρ σ_4 := hσ_4
  dsimp only
  refine wp_ck (by rw [w32_of (by omega) (by omega)]; omega) ?_
  refine wp_lt (fun a_6 e_a_6 => ?_)
  have q_a_6 : (-2147483648) ≤ a_6 ∧ a_6 ≤ 2147483647 := by rw [e_a_6]; exact scr_b _ _
  refine wp_bd (jR_readBytes hσ_4 (by first | exact q_a_6 | exact w32_rng _ | exact q_lor_rng _ _)) ?_
  rintro ⟨x_10, σ_9⟩ _ hσ_9
  replace hσ_9 : INK ρ σ_9 := hσ_9
  dsimp only
  exact wp_some ⟨rfl, hσ_9⟩
theorem step_5 {ρ σ : SG} {xs : Nat → Int32} {L : Nat} {i_0 : Int} (hσ : INK ρ σ) (h1 : 1 ≤ i_0) (h2 : i_0 + 5 < (L : Int)) (hL : L ≤ 3073) : wp_ (fS_5 σ xs L i_0) (fun r => r.1 = true ∧ INK ρ r.2) := by
  unfold fS_5
  refine wp_ck (by rw [w32_of (by omega) (by omega)]; omega) ?_
  refine wp_lt (fun a_1 e_a_1 => ?_)
  have q_a_1 : (-2147483648) ≤ a_1 ∧ a_1 ≤ 2147483647 := by rw [e_a_1]; exact scr_b _ _
  refine wp_bd (jL_fault hσ (by first | exact q_a_1 | exact w32_rng _ | exact q_lor_rng _ _)) ?_
  rintro ⟨x_5, σ_4⟩ _ hσ_4
  replace hσ_4 : INK ρ σ_4 := hσ_4
  dsimp only
  refine wp_ck (by rw [w32_of (by omega) (by omega)]; omega) ?_
  refine wp_lt (fun a_6 e_a_6 => ?_)
  have q_a_6 : (-2147483648) ≤ a_6 ∧ a_6 ≤ 2147483647 := by rw [e_a_6]; exact scr_b _ _
  refine wp_bd (jR_fault hσ_4 (by first | exact q_a_6 | exact w32_rng _ | exact q_lor_rng _ _)) ?_
  rintro ⟨x_10, σ_9⟩ _ hσ_9
  replace hσ_9 : INK ρ σ_9 := hσ_9
  dsimp only
  exact wp_some ⟨rfl, hσ_9⟩
theorem step_6 {ρ σ : SG} {xs : Nat → Int32} {L : Nat} {i_0 : Int} (hσ : INK ρ σ) (h1 : 1 ≤ i_0) (h2 : i_0 + 5 < (L : Int)) (hL : L ≤ 3073) : wp_ (fS_6 σ xs L i_0) (fun r => r.1 = true ∧ INK ρ r.2) := by
  unfold fS_6
  refine wp_ck (by rw [w32_of (by omega) (by omega)]; omega) ?_
  refine wp_lt (fun a_1 e_a_1 => ?_)
  have q_a_1 : (-2147483648) ≤ a_1 ∧ a_1 ≤ 2147483647 := by rw [e_a_1]; exact scr_b _ _
  refine wp_bd (jL_writeWords hσ (by first | exact q_a_1 | exact w32_rng _ | exact q_lor_rng _ _)) ?_
  rintro ⟨x_5, σ_4⟩ _ hσ_4
  replace hσ_4 : INK ρ σ_4 := hσ_4
  dsimp only
  refine wp_ck (by rw [w32_of (by omega) (by omega)]; omega) ?_
  refine wp_lt (fun a_6 e_a_6 => ?_)
  have q_a_6 : (-2147483648) ≤ a_6 ∧ a_6 ≤ 2147483647 := by rw [e_a_6]; exact scr_b _ _
  refine wp_bd (jR_writeWords hσ_4 (by first | exact q_a_6 | exact w32_rng _ | exact q_lor_rng _ _)) ?_
  rintro ⟨x_10, σ_9⟩ _ hσ_9
  replace hσ_9 : INK ρ σ_9 := hσ_9
  dsimp only
  exact wp_some ⟨rfl, hσ_9⟩
theorem step_7 {ρ σ : SG} {xs : Nat → Int32} {L : Nat} {i_0 : Int} (hσ : INK ρ σ) (h1 : 1 ≤ i_0) (h2 : i_0 + 5 < (L : Int)) (hL : L ≤ 3073) : wp_ (fS_7 σ xs L i_0) (fun r => r.1 = true ∧ INK ρ r.2) := by
  unfold fS_7
  refine wp_ck (by rw [w32_of (by omega) (by omega)]; omega) ?_
  refine wp_lt (fun a_1 e_a_1 => ?_)
  have q_a_1 : (-2147483648) ≤ a_1 ∧ a_1 ≤ 2147483647 := by rw [e_a_1]; exact scr_b _ _
  refine wp_ck (by rw [w32_of (by omega) (by omega)]; omega) ?_
  refine wp_lt (fun a_3 e_a_3 => ?_)
  have q_a_3 : (-2147483648) ≤ a_3 ∧ a_3 ≤ 2147483647 := by rw [e_a_3]; exact scr_b _ _
  refine wp_bd (jL_writeBytes hσ (by first | exact q_a_1 | exact w32_rng _ | exact q_lor_rng _ _) (by first | exact q_a_3 | exact w32_rng _ | exact q_lor_rng _ _)) ?_
  rintro ⟨x_7, σ_6⟩ _ hσ_6
  replace hσ_6 : INK ρ σ_6 := hσ_6
  dsimp only
  refine wp_ck (by rw [w32_of (by omega) (by omega)]; omega) ?_
  refine wp_lt (fun a_8 e_a_8 => ?_)
  have q_a_8 : (-2147483648) ≤ a_8 ∧ a_8 ≤ 2147483647 := by rw [e_a_8]; exact scr_b _ _
  refine wp_ck (by rw [w32_of (by omega) (by omega)]; omega) ?_
  refine wp_lt (fun a_10 e_a_10 => ?_)
  have q_a_10 : (-2147483648) ≤ a_10 ∧ a_10 ≤ 2147483647 := by rw [e_a_10]; exact scr_b _ _
  refine wp_bd (jR_writeBytes hσ_6 (by first | exact q_a_8 | exact w32_rng _ | exact q_lor_rng _ _) (by first | exact q_a_10 | exact w32_rng _ | exact q_lor_rng _ _)) ?_
  rintro ⟨x_14, σ_13⟩ _ hσ_13
  replace hσ_13 : INK ρ σ_13 := hσ_13
  dsimp only
  exact wp_some ⟨rfl, hσ_13⟩
theorem step_8 {ρ σ : SG} {xs : Nat → Int32} {L : Nat} {i_0 : Int} (hσ : INK ρ σ) (h1 : 1 ≤ i_0) (h2 : i_0 + 5 < (L : Int)) (hL : L ≤ 3073) : wp_ (fS_8 σ xs L i_0) (fun r => r.1 = true ∧ INK ρ r.2) := by
  unfold fS_8
  refine wp_ck (by rw [w32_of (by omega) (by omega)]; omega) ?_
  refine wp_lt (fun a_1 e_a_1 => ?_)
  have q_a_1 : (-2147483648) ≤ a_1 ∧ a_1 ≤ 2147483647 := by rw [e_a_1]; exact scr_b _ _
  refine wp_bd (jL_byteAt hσ (by first | exact q_a_1 | exact w32_rng _ | exact q_lor_rng _ _)) ?_
  rintro ⟨x_5, σ_4⟩ _ hσ_4
  replace hσ_4 : INK ρ σ_4 := hσ_4
  dsimp only
  refine wp_ck (by rw [w32_of (by omega) (by omega)]; omega) ?_
  refine wp_lt (fun a_6 e_a_6 => ?_)
  have q_a_6 : (-2147483648) ≤ a_6 ∧ a_6 ≤ 2147483647 := by rw [e_a_6]; exact scr_b _ _
  refine wp_bd (jR_byteAt hσ_4 (by first | exact q_a_6 | exact w32_rng _ | exact q_lor_rng _ _)) ?_
  rintro ⟨x_10, σ_9⟩ _ hσ_9
  replace hσ_9 : INK ρ σ_9 := hσ_9
  dsimp only
  exact wp_some ⟨rfl, hσ_9⟩
theorem step_9 {ρ σ : SG} {xs : Nat → Int32} {L : Nat} {i_0 : Int} (hσ : INK ρ σ) (h1 : 1 ≤ i_0) (h2 : i_0 + 5 < (L : Int)) (hL : L ≤ 3073) : wp_ (fS_9 σ xs L i_0) (fun r => r.1 = true ∧ INK ρ r.2) := by
  unfold fS_9
  refine wp_ck (by rw [w32_of (by omega) (by omega)]; omega) ?_
  refine wp_lt (fun a_1 e_a_1 => ?_)
  have q_a_1 : (-2147483648) ≤ a_1 ∧ a_1 ≤ 2147483647 := by rw [e_a_1]; exact scr_b _ _
  refine wp_ck (by rw [w32_of (by omega) (by omega)]; omega) ?_
  refine wp_lt (fun a_3 e_a_3 => ?_)
  have q_a_3 : (-2147483648) ≤ a_3 ∧ a_3 ≤ 2147483647 := by rw [e_a_3]; exact scr_b _ _
  refine wp_bd (jL_copy hσ (by first | exact q_a_1 | exact w32_rng _ | exact q_lor_rng _ _) (by first | exact q_a_3 | exact w32_rng _ | exact q_lor_rng _ _)) ?_
  rintro ⟨x_7, σ_6⟩ _ hσ_6
  replace hσ_6 : INK ρ σ_6 := hσ_6
  dsimp only
  refine wp_ck (by rw [w32_of (by omega) (by omega)]; omega) ?_
  refine wp_lt (fun a_8 e_a_8 => ?_)
  have q_a_8 : (-2147483648) ≤ a_8 ∧ a_8 ≤ 2147483647 := by rw [e_a_8]; exact scr_b _ _
  refine wp_ck (by rw [w32_of (by omega) (by omega)]; omega) ?_
  refine wp_lt (fun a_10 e_a_10 => ?_)
  have q_a_10 : (-2147483648) ≤ a_10 ∧ a_10 ≤ 2147483647 := by rw [e_a_10]; exact scr_b _ _
  refine wp_bd (jR_copy hσ_6 (by first | exact q_a_8 | exact w32_rng _ | exact q_lor_rng _ _) (by first | exact q_a_10 | exact w32_rng _ | exact q_lor_rng _ _)) ?_
  rintro ⟨x_14, σ_13⟩ _ hσ_13
  replace hσ_13 : INK ρ σ_13 := hσ_13
  dsimp only
  exact wp_some ⟨rfl, hσ_13⟩
theorem step_10 {ρ σ : SG} {xs : Nat → Int32} {L : Nat} {i_0 : Int} (hσ : INK ρ σ) (h1 : 1 ≤ i_0) (h2 : i_0 + 5 < (L : Int)) (hL : L ≤ 3073) : wp_ (fS_10 σ xs L i_0) (fun r => r.1 = true ∧ INK ρ r.2) := by
  unfold fS_10
  refine wp_ck (by rw [w32_of (by omega) (by omega)]; omega) ?_
  refine wp_lt (fun a_1 e_a_1 => ?_)
  have q_a_1 : (-2147483648) ≤ a_1 ∧ a_1 ≤ 2147483647 := by rw [e_a_1]; exact scr_b _ _
  refine wp_bd (jL_drop hσ (by first | exact q_a_1 | exact w32_rng _ | exact q_lor_rng _ _)) ?_
  rintro ⟨x_5, σ_4⟩ _ hσ_4
  replace hσ_4 : INK ρ σ_4 := hσ_4
  dsimp only
  refine wp_ck (by rw [w32_of (by omega) (by omega)]; omega) ?_
  refine wp_lt (fun a_6 e_a_6 => ?_)
  have q_a_6 : (-2147483648) ≤ a_6 ∧ a_6 ≤ 2147483647 := by rw [e_a_6]; exact scr_b _ _
  refine wp_bd (jR_drop hσ_4 (by first | exact q_a_6 | exact w32_rng _ | exact q_lor_rng _ _)) ?_
  rintro ⟨x_10, σ_9⟩ _ hσ_9
  replace hσ_9 : INK ρ σ_9 := hσ_9
  dsimp only
  exact wp_some ⟨rfl, hσ_9⟩
theorem step_11 {ρ σ : SG} {xs : Nat → Int32} {L : Nat} {i_0 : Int} (hσ : INK ρ σ) (h1 : 1 ≤ i_0) (h2 : i_0 + 5 < (L : Int)) (hL : L ≤ 3073) : wp_ (fS_11 σ xs L i_0) (fun r => r.1 = true ∧ INK ρ r.2) := by
  unfold fS_11
  refine wp_ck (by rw [w32_of (by omega) (by omega)]; omega) ?_
  refine wp_lt (fun a_1 e_a_1 => ?_)
  have q_a_1 : (-2147483648) ≤ a_1 ∧ a_1 ≤ 2147483647 := by rw [e_a_1]; exact scr_b _ _
  refine wp_ck (by rw [w32_of (by omega) (by omega)]; omega) ?_
  refine wp_lt (fun a_3 e_a_3 => ?_)
  have q_a_3 : (-2147483648) ≤ a_3 ∧ a_3 ≤ 2147483647 := by rw [e_a_3]; exact scr_b _ _
  refine wp_bd (jL_same hσ (by first | exact q_a_1 | exact w32_rng _ | exact q_lor_rng _ _) (by first | exact q_a_3 | exact w32_rng _ | exact q_lor_rng _ _)) ?_
  rintro ⟨x_7, σ_6⟩ _ hσ_6
  replace hσ_6 : INK ρ σ_6 := hσ_6
  dsimp only
  refine wp_ck (by rw [w32_of (by omega) (by omega)]; omega) ?_
  refine wp_lt (fun a_8 e_a_8 => ?_)
  have q_a_8 : (-2147483648) ≤ a_8 ∧ a_8 ≤ 2147483647 := by rw [e_a_8]; exact scr_b _ _
  refine wp_ck (by rw [w32_of (by omega) (by omega)]; omega) ?_
  refine wp_lt (fun a_10 e_a_10 => ?_)
  have q_a_10 : (-2147483648) ≤ a_10 ∧ a_10 ≤ 2147483647 := by rw [e_a_10]; exact scr_b _ _
  refine wp_bd (jR_same hσ_6 (by first | exact q_a_8 | exact w32_rng _ | exact q_lor_rng _ _) (by first | exact q_a_10 | exact w32_rng _ | exact q_lor_rng _ _)) ?_
  rintro ⟨x_14, σ_13⟩ _ hσ_13
  replace hσ_13 : INK ρ σ_13 := hσ_13
  dsimp only
  exact wp_some ⟨rfl, hσ_13⟩
theorem step_12 {ρ σ : SG} {xs : Nat → Int32} {L : Nat} {i_0 : Int} (hσ : INK ρ σ) (h1 : 1 ≤ i_0) (h2 : i_0 + 5 < (L : Int)) (hL : L ≤ 3073) : wp_ (fS_12 σ xs L i_0) (fun r => r.1 = true ∧ INK ρ r.2) := by
  unfold fS_12
  refine wp_ck (by rw [w32_of (by omega) (by omega)]; omega) ?_
  refine wp_lt (fun a_1 e_a_1 => ?_)
  have q_a_1 : (-2147483648) ≤ a_1 ∧ a_1 ≤ 2147483647 := by rw [e_a_1]; exact scr_b _ _
  refine wp_bd (jL_judge hσ (by first | exact q_a_1 | exact w32_rng _ | exact q_lor_rng _ _)) ?_
  rintro ⟨x_5, σ_4⟩ _ hσ_4
  replace hσ_4 : INK ρ σ_4 := hσ_4
  dsimp only
  refine wp_ck (by rw [w32_of (by omega) (by omega)]; omega) ?_
  refine wp_lt (fun a_6 e_a_6 => ?_)
  have q_a_6 : (-2147483648) ≤ a_6 ∧ a_6 ≤ 2147483647 := by rw [e_a_6]; exact scr_b _ _
  refine wp_bd (jR_judge hσ_4 (by first | exact q_a_6 | exact w32_rng _ | exact q_lor_rng _ _)) ?_
  rintro ⟨x_10, σ_9⟩ _ hσ_9
  replace hσ_9 : INK ρ σ_9 := hσ_9
  dsimp only
  exact wp_some ⟨rfl, hσ_9⟩
theorem step_13 {ρ σ : SG} {xs : Nat → Int32} {L : Nat} {i_0 : Int} (hσ : INK ρ σ) (h1 : 1 ≤ i_0) (h2 : i_0 + 5 < (L : Int)) (hL : L ≤ 3073) : wp_ (fS_13 σ xs L i_0) (fun r => r.1 = true ∧ INK ρ r.2) := by
  unfold fS_13
  refine wp_ck (by rw [w32_of (by omega) (by omega)]; omega) ?_
  refine wp_lt (fun a_1 e_a_1 => ?_)
  have q_a_1 : (-2147483648) ≤ a_1 ∧ a_1 ≤ 2147483647 := by rw [e_a_1]; exact scr_b _ _
  refine wp_bd (jL_place hσ (by first | exact q_a_1 | exact w32_rng _ | exact q_lor_rng _ _)) ?_
  rintro ⟨x_5, σ_4⟩ _ hσ_4
  replace hσ_4 : INK ρ σ_4 := hσ_4
  dsimp only
  refine wp_ck (by rw [w32_of (by omega) (by omega)]; omega) ?_
  refine wp_lt (fun a_6 e_a_6 => ?_)
  have q_a_6 : (-2147483648) ≤ a_6 ∧ a_6 ≤ 2147483647 := by rw [e_a_6]; exact scr_b _ _
  refine wp_bd (jR_place hσ_4 (by first | exact q_a_6 | exact w32_rng _ | exact q_lor_rng _ _)) ?_
  rintro ⟨x_10, σ_9⟩ _ hσ_9
  replace hσ_9 : INK ρ σ_9 := hσ_9
  dsimp only
  exact wp_some ⟨rfl, hσ_9⟩
theorem step_14 {ρ σ : SG} {xs : Nat → Int32} {L : Nat} {i_0 : Int} (hσ : INK ρ σ) (h1 : 1 ≤ i_0) (h2 : i_0 + 5 < (L : Int)) (hL : L ≤ 3073) : wp_ (fS_14 σ xs L i_0) (fun r => r.1 = true ∧ INK ρ r.2) := by
  unfold fS_14
  refine wp_ck (by rw [w32_of (by omega) (by omega)]; omega) ?_
  refine wp_lt (fun a_1 e_a_1 => ?_)
  have q_a_1 : (-2147483648) ≤ a_1 ∧ a_1 ≤ 2147483647 := by rw [e_a_1]; exact scr_b _ _
  refine wp_ck (by rw [w32_of (by omega) (by omega)]; omega) ?_
  refine wp_lt (fun a_3 e_a_3 => ?_)
  have q_a_3 : (-2147483648) ≤ a_3 ∧ a_3 ≤ 2147483647 := by rw [e_a_3]; exact scr_b _ _
  refine wp_ck (by rw [w32_of (by omega) (by omega)]; omega) ?_
  refine wp_lt (fun a_5 e_a_5 => ?_)
  have q_a_5 : (-2147483648) ≤ a_5 ∧ a_5 ≤ 2147483647 := by rw [e_a_5]; exact scr_b _ _
  refine wp_ck (by rw [w32_of (by omega) (by omega)]; omega) ?_
  refine wp_lt (fun a_7 e_a_7 => ?_)
  have q_a_7 : (-2147483648) ≤ a_7 ∧ a_7 ≤ 2147483647 := by rw [e_a_7]; exact scr_b _ _
  refine wp_bd (jL_overlay hσ (by first | exact q_a_1 | exact w32_rng _ | exact q_lor_rng _ _) (by first | exact q_a_3 | exact w32_rng _ | exact q_lor_rng _ _) (by first | exact q_a_5 | exact w32_rng _ | exact q_lor_rng _ _) (by first | exact q_a_7 | exact w32_rng _ | exact q_lor_rng _ _)) ?_
  rintro ⟨x_11, σ_10⟩ _ hσ_10
  replace hσ_10 : INK ρ σ_10 := hσ_10
  dsimp only
  refine wp_ck (by rw [w32_of (by omega) (by omega)]; omega) ?_
  refine wp_lt (fun a_12 e_a_12 => ?_)
  have q_a_12 : (-2147483648) ≤ a_12 ∧ a_12 ≤ 2147483647 := by rw [e_a_12]; exact scr_b _ _
  refine wp_ck (by rw [w32_of (by omega) (by omega)]; omega) ?_
  refine wp_lt (fun a_14 e_a_14 => ?_)
  have q_a_14 : (-2147483648) ≤ a_14 ∧ a_14 ≤ 2147483647 := by rw [e_a_14]; exact scr_b _ _
  refine wp_ck (by rw [w32_of (by omega) (by omega)]; omega) ?_
  refine wp_lt (fun a_16 e_a_16 => ?_)
  have q_a_16 : (-2147483648) ≤ a_16 ∧ a_16 ≤ 2147483647 := by rw [e_a_16]; exact scr_b _ _
  refine wp_ck (by rw [w32_of (by omega) (by omega)]; omega) ?_
  refine wp_lt (fun a_18 e_a_18 => ?_)
  have q_a_18 : (-2147483648) ≤ a_18 ∧ a_18 ≤ 2147483647 := by rw [e_a_18]; exact scr_b _ _
  refine wp_bd (jR_overlay hσ_10 (by first | exact q_a_12 | exact w32_rng _ | exact q_lor_rng _ _) (by first | exact q_a_14 | exact w32_rng _ | exact q_lor_rng _ _) (by first | exact q_a_16 | exact w32_rng _ | exact q_lor_rng _ _) (by first | exact q_a_18 | exact w32_rng _ | exact q_lor_rng _ _)) ?_
  rintro ⟨x_22, σ_21⟩ _ hσ_21
  replace hσ_21 : INK ρ σ_21 := hσ_21
  dsimp only
  exact wp_some ⟨rfl, hσ_21⟩
theorem step_15 {ρ σ : SG} {xs : Nat → Int32} {L : Nat} {i_0 : Int} (hσ : INK ρ σ) (h1 : 1 ≤ i_0) (h2 : i_0 + 5 < (L : Int)) (hL : L ≤ 3073) : wp_ (fS_15 σ xs L i_0) (fun r => r.1 = true ∧ INK ρ r.2) := by
  unfold fS_15
  refine wp_ck (by rw [w32_of (by omega) (by omega)]; omega) ?_
  refine wp_lt (fun a_1 e_a_1 => ?_)
  have q_a_1 : (-2147483648) ≤ a_1 ∧ a_1 ≤ 2147483647 := by rw [e_a_1]; exact scr_b _ _
  refine wp_ck (by rw [w32_of (by omega) (by omega)]; omega) ?_
  refine wp_lt (fun a_3 e_a_3 => ?_)
  have q_a_3 : (-2147483648) ≤ a_3 ∧ a_3 ≤ 2147483647 := by rw [e_a_3]; exact scr_b _ _
  refine wp_bd (jL_relate hσ (by first | exact q_a_1 | exact w32_rng _ | exact q_lor_rng _ _) (by first | exact q_a_3 | exact w32_rng _ | exact q_lor_rng _ _)) ?_
  rintro ⟨x_7, σ_6⟩ _ hσ_6
  replace hσ_6 : INK ρ σ_6 := hσ_6
  dsimp only
  refine wp_ck (by rw [w32_of (by omega) (by omega)]; omega) ?_
  refine wp_lt (fun a_8 e_a_8 => ?_)
  have q_a_8 : (-2147483648) ≤ a_8 ∧ a_8 ≤ 2147483647 := by rw [e_a_8]; exact scr_b _ _
  refine wp_ck (by rw [w32_of (by omega) (by omega)]; omega) ?_
  refine wp_lt (fun a_10 e_a_10 => ?_)
  have q_a_10 : (-2147483648) ≤ a_10 ∧ a_10 ≤ 2147483647 := by rw [e_a_10]; exact scr_b _ _
  refine wp_bd (jR_relate hσ_6 (by first | exact q_a_8 | exact w32_rng _ | exact q_lor_rng _ _) (by first | exact q_a_10 | exact w32_rng _ | exact q_lor_rng _ _)) ?_
  rintro ⟨x_14, σ_13⟩ _ hσ_13
  replace hσ_13 : INK ρ σ_13 := hσ_13
  dsimp only
  exact wp_some ⟨rfl, hσ_13⟩
theorem step_16 {ρ σ : SG} {xs : Nat → Int32} {L : Nat} {i_0 : Int} (hσ : INK ρ σ) (h1 : 1 ≤ i_0) (h2 : i_0 + 5 < (L : Int)) (hL : L ≤ 3073) : wp_ (fS_16 σ xs L i_0) (fun r => r.1 = true ∧ INK ρ r.2) := by
  unfold fS_16
  refine wp_ck (by rw [w32_of (by omega) (by omega)]; omega) ?_
  refine wp_lt (fun a_1 e_a_1 => ?_)
  have q_a_1 : (-2147483648) ≤ a_1 ∧ a_1 ≤ 2147483647 := by rw [e_a_1]; exact scr_b _ _
  refine wp_ck (by rw [w32_of (by omega) (by omega)]; omega) ?_
  refine wp_lt (fun a_3 e_a_3 => ?_)
  have q_a_3 : (-2147483648) ≤ a_3 ∧ a_3 ≤ 2147483647 := by rw [e_a_3]; exact scr_b _ _
  refine wp_ck (by rw [w32_of (by omega) (by omega)]; omega) ?_
  refine wp_lt (fun a_5 e_a_5 => ?_)
  have q_a_5 : (-2147483648) ≤ a_5 ∧ a_5 ≤ 2147483647 := by rw [e_a_5]; exact scr_b _ _
  refine wp_bd (jL_is hσ (by first | exact q_a_1 | exact w32_rng _ | exact q_lor_rng _ _) (by first | exact q_a_3 | exact w32_rng _ | exact q_lor_rng _ _) (by first | exact q_a_5 | exact w32_rng _ | exact q_lor_rng _ _)) ?_
  rintro ⟨x_9, σ_8⟩ _ hσ_8
  replace hσ_8 : INK ρ σ_8 := hσ_8
  dsimp only
  refine wp_ck (by rw [w32_of (by omega) (by omega)]; omega) ?_
  refine wp_lt (fun a_10 e_a_10 => ?_)
  have q_a_10 : (-2147483648) ≤ a_10 ∧ a_10 ≤ 2147483647 := by rw [e_a_10]; exact scr_b _ _
  refine wp_ck (by rw [w32_of (by omega) (by omega)]; omega) ?_
  refine wp_lt (fun a_12 e_a_12 => ?_)
  have q_a_12 : (-2147483648) ≤ a_12 ∧ a_12 ≤ 2147483647 := by rw [e_a_12]; exact scr_b _ _
  refine wp_ck (by rw [w32_of (by omega) (by omega)]; omega) ?_
  refine wp_lt (fun a_14 e_a_14 => ?_)
  have q_a_14 : (-2147483648) ≤ a_14 ∧ a_14 ≤ 2147483647 := by rw [e_a_14]; exact scr_b _ _
  refine wp_bd (jR_is hσ_8 (by first | exact q_a_10 | exact w32_rng _ | exact q_lor_rng _ _) (by first | exact q_a_12 | exact w32_rng _ | exact q_lor_rng _ _) (by first | exact q_a_14 | exact w32_rng _ | exact q_lor_rng _ _)) ?_
  rintro ⟨x_18, σ_17⟩ _ hσ_17
  replace hσ_17 : INK ρ σ_17 := hσ_17
  dsimp only
  exact wp_some ⟨rfl, hσ_17⟩
theorem step_17 {ρ σ : SG} {xs : Nat → Int32} {L : Nat} {i_0 : Int} (hσ : INK ρ σ) (h1 : 1 ≤ i_0) (h2 : i_0 + 5 < (L : Int)) (hL : L ≤ 3073) : wp_ (fS_17 σ xs L i_0) (fun r => r.1 = true ∧ INK ρ r.2) := by
  unfold fS_17
  refine wp_ck (by rw [w32_of (by omega) (by omega)]; omega) ?_
  refine wp_lt (fun a_1 e_a_1 => ?_)
  have q_a_1 : (-2147483648) ≤ a_1 ∧ a_1 ≤ 2147483647 := by rw [e_a_1]; exact scr_b _ _
  refine wp_ck (by rw [w32_of (by omega) (by omega)]; omega) ?_
  refine wp_lt (fun a_3 e_a_3 => ?_)
  have q_a_3 : (-2147483648) ≤ a_3 ∧ a_3 ≤ 2147483647 := by rw [e_a_3]; exact scr_b _ _
  refine wp_ck (by rw [w32_of (by omega) (by omega)]; omega) ?_
  refine wp_lt (fun a_5 e_a_5 => ?_)
  have q_a_5 : (-2147483648) ≤ a_5 ∧ a_5 ≤ 2147483647 := by rw [e_a_5]; exact scr_b _ _
  refine wp_bd (jL_locate hσ (by first | exact q_a_1 | exact w32_rng _ | exact q_lor_rng _ _) (by first | exact q_a_3 | exact w32_rng _ | exact q_lor_rng _ _) (by first | exact q_a_5 | exact w32_rng _ | exact q_lor_rng _ _)) ?_
  rintro ⟨x_9, σ_8⟩ _ hσ_8
  replace hσ_8 : INK ρ σ_8 := hσ_8
  dsimp only
  refine wp_ck (by rw [w32_of (by omega) (by omega)]; omega) ?_
  refine wp_lt (fun a_10 e_a_10 => ?_)
  have q_a_10 : (-2147483648) ≤ a_10 ∧ a_10 ≤ 2147483647 := by rw [e_a_10]; exact scr_b _ _
  refine wp_ck (by rw [w32_of (by omega) (by omega)]; omega) ?_
  refine wp_lt (fun a_12 e_a_12 => ?_)
  have q_a_12 : (-2147483648) ≤ a_12 ∧ a_12 ≤ 2147483647 := by rw [e_a_12]; exact scr_b _ _
  refine wp_ck (by rw [w32_of (by omega) (by omega)]; omega) ?_
  refine wp_lt (fun a_14 e_a_14 => ?_)
  have q_a_14 : (-2147483648) ≤ a_14 ∧ a_14 ≤ 2147483647 := by rw [e_a_14]; exact scr_b _ _
  refine wp_bd (jR_locate hσ_8 (by first | exact q_a_10 | exact w32_rng _ | exact q_lor_rng _ _) (by first | exact q_a_12 | exact w32_rng _ | exact q_lor_rng _ _) (by first | exact q_a_14 | exact w32_rng _ | exact q_lor_rng _ _)) ?_
  rintro ⟨x_18, σ_17⟩ _ hσ_17
  replace hσ_17 : INK ρ σ_17 := hσ_17
  dsimp only
  exact wp_some ⟨rfl, hσ_17⟩
theorem step_18 {ρ σ : SG} {xs : Nat → Int32} {L : Nat} {i_0 : Int} (hσ : INK ρ σ) (h1 : 1 ≤ i_0) (h2 : i_0 + 5 < (L : Int)) (hL : L ≤ 3073) : wp_ (fS_18 σ xs L i_0) (fun r => r.1 = true ∧ INK ρ r.2) := by
  unfold fS_18
  refine wp_ck (by rw [w32_of (by omega) (by omega)]; omega) ?_
  refine wp_lt (fun a_1 e_a_1 => ?_)
  have q_a_1 : (-2147483648) ≤ a_1 ∧ a_1 ≤ 2147483647 := by rw [e_a_1]; exact scr_b _ _
  refine wp_ck (by rw [w32_of (by omega) (by omega)]; omega) ?_
  refine wp_lt (fun a_3 e_a_3 => ?_)
  have q_a_3 : (-2147483648) ≤ a_3 ∧ a_3 ≤ 2147483647 := by rw [e_a_3]; exact scr_b _ _
  refine wp_bd (jL_hull hσ (by first | exact q_a_1 | exact w32_rng _ | exact q_lor_rng _ _) (by first | exact q_a_3 | exact w32_rng _ | exact q_lor_rng _ _)) ?_
  rintro ⟨x_7, σ_6⟩ _ hσ_6
  replace hσ_6 : INK ρ σ_6 := hσ_6
  dsimp only
  refine wp_ck (by rw [w32_of (by omega) (by omega)]; omega) ?_
  refine wp_lt (fun a_8 e_a_8 => ?_)
  have q_a_8 : (-2147483648) ≤ a_8 ∧ a_8 ≤ 2147483647 := by rw [e_a_8]; exact scr_b _ _
  refine wp_ck (by rw [w32_of (by omega) (by omega)]; omega) ?_
  refine wp_lt (fun a_10 e_a_10 => ?_)
  have q_a_10 : (-2147483648) ≤ a_10 ∧ a_10 ≤ 2147483647 := by rw [e_a_10]; exact scr_b _ _
  refine wp_bd (jR_hull hσ_6 (by first | exact q_a_8 | exact w32_rng _ | exact q_lor_rng _ _) (by first | exact q_a_10 | exact w32_rng _ | exact q_lor_rng _ _)) ?_
  rintro ⟨x_14, σ_13⟩ _ hσ_13
  replace hσ_13 : INK ρ σ_13 := hσ_13
  dsimp only
  exact wp_some ⟨rfl, hσ_13⟩
theorem step_19 {ρ σ : SG} {xs : Nat → Int32} {L : Nat} {i_0 : Int} (hσ : INK ρ σ) (h1 : 1 ≤ i_0) (h2 : i_0 + 5 < (L : Int)) (hL : L ≤ 3073) : wp_ (fS_19 σ xs L i_0) (fun r => r.1 = true ∧ INK ρ r.2) := by
  unfold fS_19
  refine wp_ck (by rw [w32_of (by omega) (by omega)]; omega) ?_
  refine wp_lt (fun a_1 e_a_1 => ?_)
  have q_a_1 : (-2147483648) ≤ a_1 ∧ a_1 ≤ 2147483647 := by rw [e_a_1]; exact scr_b _ _
  refine wp_ck (by rw [w32_of (by omega) (by omega)]; omega) ?_
  refine wp_lt (fun a_3 e_a_3 => ?_)
  have q_a_3 : (-2147483648) ≤ a_3 ∧ a_3 ≤ 2147483647 := by rw [e_a_3]; exact scr_b _ _
  refine wp_bd (jL_triangles hσ (by first | exact q_a_1 | exact w32_rng _ | exact q_lor_rng _ _) (by first | exact q_a_3 | exact w32_rng _ | exact q_lor_rng _ _)) ?_
  rintro ⟨x_7, σ_6⟩ _ hσ_6
  replace hσ_6 : INK ρ σ_6 := hσ_6
  dsimp only
  refine wp_ck (by rw [w32_of (by omega) (by omega)]; omega) ?_
  refine wp_lt (fun a_8 e_a_8 => ?_)
  have q_a_8 : (-2147483648) ≤ a_8 ∧ a_8 ≤ 2147483647 := by rw [e_a_8]; exact scr_b _ _
  refine wp_ck (by rw [w32_of (by omega) (by omega)]; omega) ?_
  refine wp_lt (fun a_10 e_a_10 => ?_)
  have q_a_10 : (-2147483648) ≤ a_10 ∧ a_10 ≤ 2147483647 := by rw [e_a_10]; exact scr_b _ _
  refine wp_bd (jR_triangles hσ_6 (by first | exact q_a_8 | exact w32_rng _ | exact q_lor_rng _ _) (by first | exact q_a_10 | exact w32_rng _ | exact q_lor_rng _ _)) ?_
  rintro ⟨x_14, σ_13⟩ _ hσ_13
  replace hσ_13 : INK ρ σ_13 := hσ_13
  dsimp only
  exact wp_some ⟨rfl, hσ_13⟩
theorem step_20 {ρ σ : SG} {xs : Nat → Int32} {L : Nat} {i_0 : Int} (hσ : INK ρ σ) (h1 : 1 ≤ i_0) (h2 : i_0 + 5 < (L : Int)) (hL : L ≤ 3073) : wp_ (fS_20 σ xs L i_0) (fun r => r.1 = true ∧ INK ρ r.2) := by
  unfold fS_20
  refine wp_ck (by rw [w32_of (by omega) (by omega)]; omega) ?_
  refine wp_lt (fun a_1 e_a_1 => ?_)
  have q_a_1 : (-2147483648) ≤ a_1 ∧ a_1 ≤ 2147483647 := by rw [e_a_1]; exact scr_b _ _
  refine wp_ck (by rw [w32_of (by omega) (by omega)]; omega) ?_
  refine wp_lt (fun a_3 e_a_3 => ?_)
  have q_a_3 : (-2147483648) ≤ a_3 ∧ a_3 ≤ 2147483647 := by rw [e_a_3]; exact scr_b _ _
  refine wp_ck (by rw [w32_of (by omega) (by omega)]; omega) ?_
  refine wp_lt (fun a_5 e_a_5 => ?_)
  have q_a_5 : (-2147483648) ≤ a_5 ∧ a_5 ≤ 2147483647 := by rw [e_a_5]; exact scr_b _ _
  refine wp_bd (jL_simplify hσ (by first | exact q_a_1 | exact w32_rng _ | exact q_lor_rng _ _) (by first | exact q_a_3 | exact w32_rng _ | exact q_lor_rng _ _) (by first | exact q_a_5 | exact w32_rng _ | exact q_lor_rng _ _)) ?_
  rintro ⟨x_9, σ_8⟩ _ hσ_8
  replace hσ_8 : INK ρ σ_8 := hσ_8
  dsimp only
  refine wp_ck (by rw [w32_of (by omega) (by omega)]; omega) ?_
  refine wp_lt (fun a_10 e_a_10 => ?_)
  have q_a_10 : (-2147483648) ≤ a_10 ∧ a_10 ≤ 2147483647 := by rw [e_a_10]; exact scr_b _ _
  refine wp_ck (by rw [w32_of (by omega) (by omega)]; omega) ?_
  refine wp_lt (fun a_12 e_a_12 => ?_)
  have q_a_12 : (-2147483648) ≤ a_12 ∧ a_12 ≤ 2147483647 := by rw [e_a_12]; exact scr_b _ _
  refine wp_ck (by rw [w32_of (by omega) (by omega)]; omega) ?_
  refine wp_lt (fun a_14 e_a_14 => ?_)
  have q_a_14 : (-2147483648) ≤ a_14 ∧ a_14 ≤ 2147483647 := by rw [e_a_14]; exact scr_b _ _
  refine wp_bd (jR_simplify hσ_8 (by first | exact q_a_10 | exact w32_rng _ | exact q_lor_rng _ _) (by first | exact q_a_12 | exact w32_rng _ | exact q_lor_rng _ _) (by first | exact q_a_14 | exact w32_rng _ | exact q_lor_rng _ _)) ?_
  rintro ⟨x_18, σ_17⟩ _ hσ_17
  replace hσ_17 : INK ρ σ_17 := hσ_17
  dsimp only
  exact wp_some ⟨rfl, hσ_17⟩
theorem step_21 {ρ σ : SG} {xs : Nat → Int32} {L : Nat} {i_0 : Int} (hσ : INK ρ σ) (h1 : 1 ≤ i_0) (h2 : i_0 + 5 < (L : Int)) (hL : L ≤ 3073) : wp_ (fS_21 σ xs L i_0) (fun r => r.1 = true ∧ INK ρ r.2) := by
  unfold fS_21
  refine wp_ck (by rw [w32_of (by omega) (by omega)]; omega) ?_
  refine wp_lt (fun a_1 e_a_1 => ?_)
  have q_a_1 : (-2147483648) ≤ a_1 ∧ a_1 ≤ 2147483647 := by rw [e_a_1]; exact scr_b _ _
  refine wp_bd (jL_area hσ (by first | exact q_a_1 | exact w32_rng _ | exact q_lor_rng _ _)) ?_
  rintro ⟨x_5, σ_4⟩ _ hσ_4
  replace hσ_4 : INK ρ σ_4 := hσ_4
  dsimp only
  refine wp_ck (by rw [w32_of (by omega) (by omega)]; omega) ?_
  refine wp_lt (fun a_6 e_a_6 => ?_)
  have q_a_6 : (-2147483648) ≤ a_6 ∧ a_6 ≤ 2147483647 := by rw [e_a_6]; exact scr_b _ _
  refine wp_bd (jR_area hσ_4 (by first | exact q_a_6 | exact w32_rng _ | exact q_lor_rng _ _)) ?_
  rintro ⟨x_10, σ_9⟩ _ hσ_9
  replace hσ_9 : INK ρ σ_9 := hσ_9
  dsimp only
  exact wp_some ⟨rfl, hσ_9⟩
theorem step_22 {ρ σ : SG} {xs : Nat → Int32} {L : Nat} {i_0 : Int} (hσ : INK ρ σ) (h1 : 1 ≤ i_0) (h2 : i_0 + 5 < (L : Int)) (hL : L ≤ 3073) : wp_ (fS_22 σ xs L i_0) (fun r => r.1 = true ∧ INK ρ r.2) := by
  unfold fS_22
  refine wp_ck (by rw [w32_of (by omega) (by omega)]; omega) ?_
  refine wp_lt (fun a_1 e_a_1 => ?_)
  have q_a_1 : (-2147483648) ≤ a_1 ∧ a_1 ≤ 2147483647 := by rw [e_a_1]; exact scr_b _ _
  refine wp_ck (by rw [w32_of (by omega) (by omega)]; omega) ?_
  refine wp_lt (fun a_3 e_a_3 => ?_)
  have q_a_3 : (-2147483648) ≤ a_3 ∧ a_3 ≤ 2147483647 := by rw [e_a_3]; exact scr_b _ _
  refine wp_bd (jL_bounds hσ (by first | exact q_a_1 | exact w32_rng _ | exact q_lor_rng _ _) (by first | exact q_a_3 | exact w32_rng _ | exact q_lor_rng _ _)) ?_
  rintro ⟨x_7, σ_6⟩ _ hσ_6
  replace hσ_6 : INK ρ σ_6 := hσ_6
  dsimp only
  refine wp_ck (by rw [w32_of (by omega) (by omega)]; omega) ?_
  refine wp_lt (fun a_8 e_a_8 => ?_)
  have q_a_8 : (-2147483648) ≤ a_8 ∧ a_8 ≤ 2147483647 := by rw [e_a_8]; exact scr_b _ _
  refine wp_ck (by rw [w32_of (by omega) (by omega)]; omega) ?_
  refine wp_lt (fun a_10 e_a_10 => ?_)
  have q_a_10 : (-2147483648) ≤ a_10 ∧ a_10 ≤ 2147483647 := by rw [e_a_10]; exact scr_b _ _
  refine wp_bd (jR_bounds hσ_6 (by first | exact q_a_8 | exact w32_rng _ | exact q_lor_rng _ _) (by first | exact q_a_10 | exact w32_rng _ | exact q_lor_rng _ _)) ?_
  rintro ⟨x_14, σ_13⟩ _ hσ_13
  replace hσ_13 : INK ρ σ_13 := hσ_13
  dsimp only
  exact wp_some ⟨rfl, hσ_13⟩
theorem step_23 {ρ σ : SG} {xs : Nat → Int32} {L : Nat} {i_0 : Int} (hσ : INK ρ σ) (h1 : 1 ≤ i_0) (h2 : i_0 + 5 < (L : Int)) (hL : L ≤ 3073) : wp_ (fS_23 σ xs L i_0) (fun r => r.1 = true ∧ INK ρ r.2) := by
  unfold fS_23
  refine wp_ck (by rw [w32_of (by omega) (by omega)]; omega) ?_
  refine wp_lt (fun a_1 e_a_1 => ?_)
  have q_a_1 : (-2147483648) ≤ a_1 ∧ a_1 ≤ 2147483647 := by rw [e_a_1]; exact scr_b _ _
  refine wp_ck (by rw [w32_of (by omega) (by omega)]; omega) ?_
  refine wp_lt (fun a_3 e_a_3 => ?_)
  have q_a_3 : (-2147483648) ≤ a_3 ∧ a_3 ≤ 2147483647 := by rw [e_a_3]; exact scr_b _ _
  refine wp_ck (by rw [w32_of (by omega) (by omega)]; omega) ?_
  refine wp_lt (fun a_5 e_a_5 => ?_)
  have q_a_5 : (-2147483648) ≤ a_5 ∧ a_5 ≤ 2147483647 := by rw [e_a_5]; exact scr_b _ _
  refine wp_ck (by rw [w32_of (by omega) (by omega)]; omega) ?_
  refine wp_lt (fun a_7 e_a_7 => ?_)
  have q_a_7 : (-2147483648) ≤ a_7 ∧ a_7 ≤ 2147483647 := by rw [e_a_7]; exact scr_b _ _
  refine wp_ck (by rw [w32_of (by omega) (by omega)]; omega) ?_
  refine wp_lt (fun a_9 e_a_9 => ?_)
  have q_a_9 : (-2147483648) ≤ a_9 ∧ a_9 ≤ 2147483647 := by rw [e_a_9]; exact scr_b _ _
  refine wp_bd (jL_find hσ (by first | exact q_a_1 | exact w32_rng _ | exact q_lor_rng _ _) (by first | exact q_a_3 | exact w32_rng _ | exact q_lor_rng _ _) (by first | exact q_a_5 | exact w32_rng _ | exact q_lor_rng _ _) (by first | exact q_a_7 | exact w32_rng _ | exact q_lor_rng _ _) (by first | exact q_a_9 | exact w32_rng _ | exact q_lor_rng _ _)) ?_
  rintro ⟨x_13, σ_12⟩ _ hσ_12
  replace hσ_12 : INK ρ σ_12 := hσ_12
  dsimp only
  refine wp_ck (by rw [w32_of (by omega) (by omega)]; omega) ?_
  refine wp_lt (fun a_14 e_a_14 => ?_)
  have q_a_14 : (-2147483648) ≤ a_14 ∧ a_14 ≤ 2147483647 := by rw [e_a_14]; exact scr_b _ _
  refine wp_ck (by rw [w32_of (by omega) (by omega)]; omega) ?_
  refine wp_lt (fun a_16 e_a_16 => ?_)
  have q_a_16 : (-2147483648) ≤ a_16 ∧ a_16 ≤ 2147483647 := by rw [e_a_16]; exact scr_b _ _
  refine wp_ck (by rw [w32_of (by omega) (by omega)]; omega) ?_
  refine wp_lt (fun a_18 e_a_18 => ?_)
  have q_a_18 : (-2147483648) ≤ a_18 ∧ a_18 ≤ 2147483647 := by rw [e_a_18]; exact scr_b _ _
  refine wp_ck (by rw [w32_of (by omega) (by omega)]; omega) ?_
  refine wp_lt (fun a_20 e_a_20 => ?_)
  have q_a_20 : (-2147483648) ≤ a_20 ∧ a_20 ≤ 2147483647 := by rw [e_a_20]; exact scr_b _ _
  refine wp_ck (by rw [w32_of (by omega) (by omega)]; omega) ?_
  refine wp_lt (fun a_22 e_a_22 => ?_)
  have q_a_22 : (-2147483648) ≤ a_22 ∧ a_22 ≤ 2147483647 := by rw [e_a_22]; exact scr_b _ _
  refine wp_bd (jR_find hσ_12 (by first | exact q_a_14 | exact w32_rng _ | exact q_lor_rng _ _) (by first | exact q_a_16 | exact w32_rng _ | exact q_lor_rng _ _) (by first | exact q_a_18 | exact w32_rng _ | exact q_lor_rng _ _) (by first | exact q_a_20 | exact w32_rng _ | exact q_lor_rng _ _) (by first | exact q_a_22 | exact w32_rng _ | exact q_lor_rng _ _)) ?_
  rintro ⟨x_26, σ_25⟩ _ hσ_25
  replace hσ_25 : INK ρ σ_25 := hσ_25
  dsimp only
  exact wp_some ⟨rfl, hσ_25⟩
theorem step_24 {ρ σ : SG} {xs : Nat → Int32} {L : Nat} {i_0 : Int} (hσ : INK ρ σ) (h1 : 1 ≤ i_0) (h2 : i_0 + 5 < (L : Int)) (hL : L ≤ 3073) : wp_ (fS_24 σ xs L i_0) (fun r => r.1 = true ∧ INK ρ r.2) := by
  unfold fS_24
  refine wp_ck (by rw [w32_of (by omega) (by omega)]; omega) ?_
  refine wp_lt (fun a_1 e_a_1 => ?_)
  have q_a_1 : (-2147483648) ≤ a_1 ∧ a_1 ≤ 2147483647 := by rw [e_a_1]; exact scr_b _ _
  refine wp_ck (by rw [w32_of (by omega) (by omega)]; omega) ?_
  refine wp_lt (fun a_3 e_a_3 => ?_)
  have q_a_3 : (-2147483648) ≤ a_3 ∧ a_3 ≤ 2147483647 := by rw [e_a_3]; exact scr_b _ _
  refine wp_ck (by rw [w32_of (by omega) (by omega)]; omega) ?_
  refine wp_lt (fun a_5 e_a_5 => ?_)
  have q_a_5 : (-2147483648) ≤ a_5 ∧ a_5 ≤ 2147483647 := by rw [e_a_5]; exact scr_b _ _
  refine wp_bd (jL_nearest hσ (by first | exact q_a_1 | exact w32_rng _ | exact q_lor_rng _ _) (by first | exact q_a_3 | exact w32_rng _ | exact q_lor_rng _ _) (by first | exact q_a_5 | exact w32_rng _ | exact q_lor_rng _ _)) ?_
  rintro ⟨x_9, σ_8⟩ _ hσ_8
  replace hσ_8 : INK ρ σ_8 := hσ_8
  dsimp only
  refine wp_ck (by rw [w32_of (by omega) (by omega)]; omega) ?_
  refine wp_lt (fun a_10 e_a_10 => ?_)
  have q_a_10 : (-2147483648) ≤ a_10 ∧ a_10 ≤ 2147483647 := by rw [e_a_10]; exact scr_b _ _
  refine wp_ck (by rw [w32_of (by omega) (by omega)]; omega) ?_
  refine wp_lt (fun a_12 e_a_12 => ?_)
  have q_a_12 : (-2147483648) ≤ a_12 ∧ a_12 ≤ 2147483647 := by rw [e_a_12]; exact scr_b _ _
  refine wp_ck (by rw [w32_of (by omega) (by omega)]; omega) ?_
  refine wp_lt (fun a_14 e_a_14 => ?_)
  have q_a_14 : (-2147483648) ≤ a_14 ∧ a_14 ≤ 2147483647 := by rw [e_a_14]; exact scr_b _ _
  refine wp_bd (jR_nearest hσ_8 (by first | exact q_a_10 | exact w32_rng _ | exact q_lor_rng _ _) (by first | exact q_a_12 | exact w32_rng _ | exact q_lor_rng _ _) (by first | exact q_a_14 | exact w32_rng _ | exact q_lor_rng _ _)) ?_
  rintro ⟨x_18, σ_17⟩ _ hσ_17
  replace hσ_17 : INK ρ σ_17 := hσ_17
  dsimp only
  exact wp_some ⟨rfl, hσ_17⟩
theorem step_25 {ρ σ : SG} {xs : Nat → Int32} {L : Nat} {i_0 : Int} (hσ : INK ρ σ) (h1 : 1 ≤ i_0) (h2 : i_0 + 5 < (L : Int)) (hL : L ≤ 3073) : wp_ (fS_25 σ xs L i_0) (fun r => r.1 = true ∧ INK ρ r.2) := by
  unfold fS_25
  refine wp_ck (by rw [w32_of (by omega) (by omega)]; omega) ?_
  refine wp_lt (fun a_1 e_a_1 => ?_)
  have q_a_1 : (-2147483648) ≤ a_1 ∧ a_1 ≤ 2147483647 := by rw [e_a_1]; exact scr_b _ _
  refine wp_bd (jL_found hσ (by first | exact q_a_1 | exact w32_rng _ | exact q_lor_rng _ _)) ?_
  rintro ⟨x_5, σ_4⟩ _ hσ_4
  replace hσ_4 : INK ρ σ_4 := hσ_4
  dsimp only
  refine wp_ck (by rw [w32_of (by omega) (by omega)]; omega) ?_
  refine wp_lt (fun a_6 e_a_6 => ?_)
  have q_a_6 : (-2147483648) ≤ a_6 ∧ a_6 ≤ 2147483647 := by rw [e_a_6]; exact scr_b _ _
  refine wp_bd (jR_found hσ_4 (by first | exact q_a_6 | exact w32_rng _ | exact q_lor_rng _ _)) ?_
  rintro ⟨x_10, σ_9⟩ _ hσ_9
  replace hσ_9 : INK ρ σ_9 := hσ_9
  dsimp only
  exact wp_some ⟨rfl, hσ_9⟩
theorem step_26 {ρ σ : SG} {xs : Nat → Int32} {L : Nat} {i_0 : Int} (hσ : INK ρ σ) (h1 : 1 ≤ i_0) (h2 : i_0 + 5 < (L : Int)) (hL : L ≤ 3073) : wp_ (fS_26 σ xs L i_0) (fun r => r.1 = true ∧ INK ρ r.2) := by
  unfold fS_26
  refine wp_ck (by rw [w32_of (by omega) (by omega)]; omega) ?_
  refine wp_lt (fun a_1 e_a_1 => ?_)
  have q_a_1 : (-2147483648) ≤ a_1 ∧ a_1 ≤ 2147483647 := by rw [e_a_1]; exact scr_b _ _
  refine wp_ck (by rw [w32_of (by omega) (by omega)]; omega) ?_
  refine wp_lt (fun a_3 e_a_3 => ?_)
  have q_a_3 : (-2147483648) ≤ a_3 ∧ a_3 ≤ 2147483647 := by rw [e_a_3]; exact scr_b _ _
  refine wp_bd (jL_plan hσ (by first | exact q_a_1 | exact w32_rng _ | exact q_lor_rng _ _) (by first | exact q_a_3 | exact w32_rng _ | exact q_lor_rng _ _)) ?_
  rintro ⟨x_7, σ_6⟩ _ hσ_6
  replace hσ_6 : INK ρ σ_6 := hσ_6
  dsimp only
  refine wp_ck (by rw [w32_of (by omega) (by omega)]; omega) ?_
  refine wp_lt (fun a_8 e_a_8 => ?_)
  have q_a_8 : (-2147483648) ≤ a_8 ∧ a_8 ≤ 2147483647 := by rw [e_a_8]; exact scr_b _ _
  refine wp_ck (by rw [w32_of (by omega) (by omega)]; omega) ?_
  refine wp_lt (fun a_10 e_a_10 => ?_)
  have q_a_10 : (-2147483648) ≤ a_10 ∧ a_10 ≤ 2147483647 := by rw [e_a_10]; exact scr_b _ _
  refine wp_bd (jR_plan hσ_6 (by first | exact q_a_8 | exact w32_rng _ | exact q_lor_rng _ _) (by first | exact q_a_10 | exact w32_rng _ | exact q_lor_rng _ _)) ?_
  rintro ⟨x_14, σ_13⟩ _ hσ_13
  replace hσ_13 : INK ρ σ_13 := hσ_13
  dsimp only
  exact wp_some ⟨rfl, hσ_13⟩
theorem step_27 {ρ σ : SG} {xs : Nat → Int32} {L : Nat} {i_0 : Int} (hσ : INK ρ σ) (h1 : 1 ≤ i_0) (h2 : i_0 + 5 < (L : Int)) (hL : L ≤ 3073) : wp_ (fS_27 σ xs L i_0) (fun r => r.1 = true ∧ INK ρ r.2) := by
  unfold fS_27
  refine wp_ck (by rw [w32_of (by omega) (by omega)]; omega) ?_
  refine wp_lt (fun a_1 e_a_1 => ?_)
  have q_a_1 : (-2147483648) ≤ a_1 ∧ a_1 ≤ 2147483647 := by rw [e_a_1]; exact scr_b _ _
  refine wp_ck (by rw [w32_of (by omega) (by omega)]; omega) ?_
  refine wp_lt (fun a_3 e_a_3 => ?_)
  have q_a_3 : (-2147483648) ≤ a_3 ∧ a_3 ≤ 2147483647 := by rw [e_a_3]; exact scr_b _ _
  refine wp_ck (by rw [w32_of (by omega) (by omega)]; omega) ?_
  refine wp_lt (fun a_5 e_a_5 => ?_)
  have q_a_5 : (-2147483648) ≤ a_5 ∧ a_5 ≤ 2147483647 := by rw [e_a_5]; exact scr_b _ _
  refine wp_bd (jL_ordinate hσ (by first | exact q_a_1 | exact w32_rng _ | exact q_lor_rng _ _) (by first | exact q_a_3 | exact w32_rng _ | exact q_lor_rng _ _) (by first | exact q_a_5 | exact w32_rng _ | exact q_lor_rng _ _)) ?_
  rintro ⟨x_9, σ_8⟩ _ hσ_8
  replace hσ_8 : INK ρ σ_8 := hσ_8
  dsimp only
  refine wp_ck (by rw [w32_of (by omega) (by omega)]; omega) ?_
  refine wp_lt (fun a_10 e_a_10 => ?_)
  have q_a_10 : (-2147483648) ≤ a_10 ∧ a_10 ≤ 2147483647 := by rw [e_a_10]; exact scr_b _ _
  refine wp_ck (by rw [w32_of (by omega) (by omega)]; omega) ?_
  refine wp_lt (fun a_12 e_a_12 => ?_)
  have q_a_12 : (-2147483648) ≤ a_12 ∧ a_12 ≤ 2147483647 := by rw [e_a_12]; exact scr_b _ _
  refine wp_ck (by rw [w32_of (by omega) (by omega)]; omega) ?_
  refine wp_lt (fun a_14 e_a_14 => ?_)
  have q_a_14 : (-2147483648) ≤ a_14 ∧ a_14 ≤ 2147483647 := by rw [e_a_14]; exact scr_b _ _
  refine wp_bd (jR_ordinate hσ_8 (by first | exact q_a_10 | exact w32_rng _ | exact q_lor_rng _ _) (by first | exact q_a_12 | exact w32_rng _ | exact q_lor_rng _ _) (by first | exact q_a_14 | exact w32_rng _ | exact q_lor_rng _ _)) ?_
  rintro ⟨x_18, σ_17⟩ _ hσ_17
  replace hσ_17 : INK ρ σ_17 := hσ_17
  dsimp only
  exact wp_some ⟨rfl, hσ_17⟩
theorem step_28 {ρ σ : SG} {xs : Nat → Int32} {L : Nat} {i_0 : Int} (hσ : INK ρ σ) (h1 : 1 ≤ i_0) (h2 : i_0 + 5 < (L : Int)) (hL : L ≤ 3073) : wp_ (fS_28 σ xs L i_0) (fun r => r.1 = true ∧ INK ρ r.2) := by
  unfold fS_28
  refine wp_ck (by rw [w32_of (by omega) (by omega)]; omega) ?_
  refine wp_lt (fun a_1 e_a_1 => ?_)
  have q_a_1 : (-2147483648) ≤ a_1 ∧ a_1 ≤ 2147483647 := by rw [e_a_1]; exact scr_b _ _
  refine wp_ck (by rw [w32_of (by omega) (by omega)]; omega) ?_
  refine wp_lt (fun a_3 e_a_3 => ?_)
  have q_a_3 : (-2147483648) ≤ a_3 ∧ a_3 ≤ 2147483647 := by rw [e_a_3]; exact scr_b _ _
  refine wp_bd (jL_count hσ (by first | exact q_a_1 | exact w32_rng _ | exact q_lor_rng _ _) (by first | exact q_a_3 | exact w32_rng _ | exact q_lor_rng _ _)) ?_
  rintro ⟨x_7, σ_6⟩ _ hσ_6
  replace hσ_6 : INK ρ σ_6 := hσ_6
  dsimp only
  refine wp_ck (by rw [w32_of (by omega) (by omega)]; omega) ?_
  refine wp_lt (fun a_8 e_a_8 => ?_)
  have q_a_8 : (-2147483648) ≤ a_8 ∧ a_8 ≤ 2147483647 := by rw [e_a_8]; exact scr_b _ _
  refine wp_ck (by rw [w32_of (by omega) (by omega)]; omega) ?_
  refine wp_lt (fun a_10 e_a_10 => ?_)
  have q_a_10 : (-2147483648) ≤ a_10 ∧ a_10 ≤ 2147483647 := by rw [e_a_10]; exact scr_b _ _
  refine wp_bd (jR_count hσ_6 (by first | exact q_a_8 | exact w32_rng _ | exact q_lor_rng _ _) (by first | exact q_a_10 | exact w32_rng _ | exact q_lor_rng _ _)) ?_
  rintro ⟨x_14, σ_13⟩ _ hσ_13
  replace hσ_13 : INK ρ σ_13 := hσ_13
  dsimp only
  exact wp_some ⟨rfl, hσ_13⟩
theorem step_31 {ρ σ : SG} {xs : Nat → Int32} {L : Nat} {i_0 : Int} (hσ : INK ρ σ) (h1 : 1 ≤ i_0) (h2 : i_0 + 5 < (L : Int)) (hL : L ≤ 3073) : wp_ (fS_31 σ xs L i_0) (fun r => r.1 = true ∧ INK ρ r.2) := by
  unfold fS_31
  refine wp_ck (by rw [w32_of (by omega) (by omega)]; omega) ?_
  refine wp_lt (fun a_1 e_a_1 => ?_)
  have q_a_1 : (-2147483648) ≤ a_1 ∧ a_1 ≤ 2147483647 := by rw [e_a_1]; exact scr_b _ _
  refine wp_ck (by rw [w32_of (by omega) (by omega)]; omega) ?_
  refine wp_lt (fun a_3 e_a_3 => ?_)
  have q_a_3 : (-2147483648) ≤ a_3 ∧ a_3 ≤ 2147483647 := by rw [e_a_3]; exact scr_b _ _
  refine wp_ck (by rw [w32_of (by omega) (by omega)]; omega) ?_
  refine wp_lt (fun a_5 e_a_5 => ?_)
  have q_a_5 : (-2147483648) ≤ a_5 ∧ a_5 ≤ 2147483647 := by rw [e_a_5]; exact scr_b _ _
  refine wp_ck (by rw [w32_of (by omega) (by omega)]; omega) ?_
  refine wp_lt (fun a_7 e_a_7 => ?_)
  have q_a_7 : (-2147483648) ≤ a_7 ∧ a_7 ≤ 2147483647 := by rw [e_a_7]; exact scr_b _ _
  refine wp_bd (jL_circle hσ (by first | exact q_a_1 | exact w32_rng _ | exact q_lor_rng _ _) (by first | exact q_a_3 | exact w32_rng _ | exact q_lor_rng _ _) (by first | exact q_a_5 | exact w32_rng _ | exact q_lor_rng _ _) (by first | exact q_a_7 | exact w32_rng _ | exact q_lor_rng _ _)) ?_
  rintro ⟨x_11, σ_10⟩ _ hσ_10
  replace hσ_10 : INK ρ σ_10 := hσ_10
  dsimp only
  refine wp_ck (by rw [w32_of (by omega) (by omega)]; omega) ?_
  refine wp_lt (fun a_12 e_a_12 => ?_)
  have q_a_12 : (-2147483648) ≤ a_12 ∧ a_12 ≤ 2147483647 := by rw [e_a_12]; exact scr_b _ _
  refine wp_ck (by rw [w32_of (by omega) (by omega)]; omega) ?_
  refine wp_lt (fun a_14 e_a_14 => ?_)
  have q_a_14 : (-2147483648) ≤ a_14 ∧ a_14 ≤ 2147483647 := by rw [e_a_14]; exact scr_b _ _
  refine wp_ck (by rw [w32_of (by omega) (by omega)]; omega) ?_
  refine wp_lt (fun a_16 e_a_16 => ?_)
  have q_a_16 : (-2147483648) ≤ a_16 ∧ a_16 ≤ 2147483647 := by rw [e_a_16]; exact scr_b _ _
  refine wp_ck (by rw [w32_of (by omega) (by omega)]; omega) ?_
  refine wp_lt (fun a_18 e_a_18 => ?_)
  have q_a_18 : (-2147483648) ≤ a_18 ∧ a_18 ≤ 2147483647 := by rw [e_a_18]; exact scr_b _ _
  refine wp_bd (jR_circle hσ_10 (by first | exact q_a_12 | exact w32_rng _ | exact q_lor_rng _ _) (by first | exact q_a_14 | exact w32_rng _ | exact q_lor_rng _ _) (by first | exact q_a_16 | exact w32_rng _ | exact q_lor_rng _ _) (by first | exact q_a_18 | exact w32_rng _ | exact q_lor_rng _ _)) ?_
  rintro ⟨x_22, σ_21⟩ _ hσ_21
  replace hσ_21 : INK ρ σ_21 := hσ_21
  dsimp only
  exact wp_some ⟨rfl, hσ_21⟩
end STEP
