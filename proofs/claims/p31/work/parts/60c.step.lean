section STEP
theorem scr_b (xs : Nat → Int32) (i : Int) : (-2147483648) ≤ scr xs i ∧ scr xs i ≤ 2147483647 := by
  unfold scr
  have h1 := (xs i.toNat).le_toInt
  have h2 := (xs i.toNat).toInt_lt
  omega
theorem step_0 {σ : SG} {xs : Nat → Int32} {L : Nat} {i_0 : Int} (hσ : INV σ) (h1 : 1 ≤ i_0) (h2 : i_0 + 5 < (L : Int)) (hL : L ≤ 3073) : wp_ (fS_0 σ xs L i_0) (fun r => r.1 = true ∧ INV r.2) := by
  unfold fS_0
  refine wp_ck (by rw [w32_of (by omega) (by omega)]; omega) ?_
  refine wp_lt (fun a_1 e_a_1 => ?_)
  have q_a_1 : (-2147483648) ≤ a_1 ∧ a_1 ≤ 2147483647 := by rw [e_a_1]; exact scr_b _ _
  refine wp_ck (by rw [w32_of (by omega) (by omega)]; omega) ?_
  refine wp_lt (fun a_3 e_a_3 => ?_)
  have q_a_3 : (-2147483648) ≤ a_3 ∧ a_3 ≤ 2147483647 := by rw [e_a_3]; exact scr_b _ _
  refine wp_ck (by rw [w32_of (by omega) (by omega)]; omega) ?_
  refine wp_lt (fun a_5 e_a_5 => ?_)
  have q_a_5 : (-2147483648) ≤ a_5 ∧ a_5 ≤ 2147483647 := by rw [e_a_5]; exact scr_b _ _
  refine wp_ck (by rw [w32_of (by omega) (by omega)]; omega) ?_
  refine wp_lt (fun a_7 e_a_7 => ?_)
  have q_a_7 : (-2147483648) ≤ a_7 ∧ a_7 ≤ 2147483647 := by rw [e_a_7]; exact scr_b _ _
  refine wp_ck (by rw [w32_of (by omega) (by omega)]; omega) ?_
  refine wp_lt (fun a_9 e_a_9 => ?_)
  have q_a_9 : (-2147483648) ≤ a_9 ∧ a_9 ≤ 2147483647 := by rw [e_a_9]; exact scr_b _ _
  refine wp_bd (iL_feed hσ (by first | exact q_a_1 | exact w32_rng _ | exact q_lor_rng _ _) (by first | exact q_a_3 | exact w32_rng _ | exact q_lor_rng _ _) (by first | exact q_a_5 | exact w32_rng _ | exact q_lor_rng _ _) (by first | exact q_a_7 | exact w32_rng _ | exact q_lor_rng _ _) (by first | exact q_a_9 | exact w32_rng _ | exact q_lor_rng _ _)) ?_
  rintro ⟨x_13, σ_12⟩ _ hσ_12
  replace hσ_12 : INV σ_12 := hσ_12
  dsimp only
  refine wp_ck (by rw [w32_of (by omega) (by omega)]; omega) ?_
  refine wp_lt (fun a_14 e_a_14 => ?_)
  have q_a_14 : (-2147483648) ≤ a_14 ∧ a_14 ≤ 2147483647 := by rw [e_a_14]; exact scr_b _ _
  refine wp_ck (by rw [w32_of (by omega) (by omega)]; omega) ?_
  refine wp_lt (fun a_16 e_a_16 => ?_)
  have q_a_16 : (-2147483648) ≤ a_16 ∧ a_16 ≤ 2147483647 := by rw [e_a_16]; exact scr_b _ _
  refine wp_ck (by rw [w32_of (by omega) (by omega)]; omega) ?_
  refine wp_lt (fun a_18 e_a_18 => ?_)
  have q_a_18 : (-2147483648) ≤ a_18 ∧ a_18 ≤ 2147483647 := by rw [e_a_18]; exact scr_b _ _
  refine wp_ck (by rw [w32_of (by omega) (by omega)]; omega) ?_
  refine wp_lt (fun a_20 e_a_20 => ?_)
  have q_a_20 : (-2147483648) ≤ a_20 ∧ a_20 ≤ 2147483647 := by rw [e_a_20]; exact scr_b _ _
  refine wp_ck (by rw [w32_of (by omega) (by omega)]; omega) ?_
  refine wp_lt (fun a_22 e_a_22 => ?_)
  have q_a_22 : (-2147483648) ≤ a_22 ∧ a_22 ≤ 2147483647 := by rw [e_a_22]; exact scr_b _ _
  refine wp_bd (iR_feed hσ_12 (by first | exact q_a_14 | exact w32_rng _ | exact q_lor_rng _ _) (by first | exact q_a_16 | exact w32_rng _ | exact q_lor_rng _ _) (by first | exact q_a_18 | exact w32_rng _ | exact q_lor_rng _ _) (by first | exact q_a_20 | exact w32_rng _ | exact q_lor_rng _ _) (by first | exact q_a_22 | exact w32_rng _ | exact q_lor_rng _ _)) ?_
  rintro ⟨x_26, σ_25⟩ _ hσ_25
  replace hσ_25 : INV σ_25 := hσ_25
  dsimp only
  exact wp_some ⟨rfl, hσ_25⟩
theorem step_1 {σ : SG} {xs : Nat → Int32} {L : Nat} {i_0 : Int} (hσ : INV σ) (h1 : 1 ≤ i_0) (h2 : i_0 + 5 < (L : Int)) (hL : L ≤ 3073) : wp_ (fS_1 σ xs L i_0) (fun r => r.1 = true ∧ INV r.2) := by
  unfold fS_1
  refine wp_ck (by rw [w32_of (by omega) (by omega)]; omega) ?_
  refine wp_lt (fun a_1 e_a_1 => ?_)
  have q_a_1 : (-2147483648) ≤ a_1 ∧ a_1 ≤ 2147483647 := by rw [e_a_1]; exact scr_b _ _
  refine wp_bd (iL_end hσ (by first | exact q_a_1 | exact w32_rng _ | exact q_lor_rng _ _)) ?_
  rintro ⟨x_5, σ_4⟩ _ hσ_4
  replace hσ_4 : INV σ_4 := hσ_4
  dsimp only
  refine wp_ck (by rw [w32_of (by omega) (by omega)]; omega) ?_
  refine wp_lt (fun a_6 e_a_6 => ?_)
  have q_a_6 : (-2147483648) ≤ a_6 ∧ a_6 ≤ 2147483647 := by rw [e_a_6]; exact scr_b _ _
  refine wp_bd (iR_end hσ_4 (by first | exact q_a_6 | exact w32_rng _ | exact q_lor_rng _ _)) ?_
  rintro ⟨x_10, σ_9⟩ _ hσ_9
  replace hσ_9 : INV σ_9 := hσ_9
  dsimp only
  exact wp_some ⟨rfl, hσ_9⟩
theorem step_2 {σ : SG} {xs : Nat → Int32} {L : Nat} {i_0 : Int} (hσ : INV σ) (h1 : 1 ≤ i_0) (h2 : i_0 + 5 < (L : Int)) (hL : L ≤ 3073) : wp_ (fS_2 σ xs L i_0) (fun r => r.1 = true ∧ INV r.2) := by
  unfold fS_2
  refine wp_bd (iQ_again hσ ) ?_
  rintro ⟨x_3, σ_2⟩ _ hσ_2
  replace hσ_2 : INV σ_2 := hσ_2
  dsimp only
  refine wp_bd (iR_again hσ_2 ) ?_
  rintro ⟨x_6, σ_5⟩ _ hσ_5
  replace hσ_5 : INV σ_5 := hσ_5
  dsimp only
  exact wp_some ⟨rfl, hσ_5⟩
theorem step_3 {σ : SG} {xs : Nat → Int32} {L : Nat} {i_0 : Int} (hσ : INV σ) (h1 : 1 ≤ i_0) (h2 : i_0 + 5 < (L : Int)) (hL : L ≤ 3073) : wp_ (fS_3 σ xs L i_0) (fun r => r.1 = true ∧ INV r.2) := by
  unfold fS_3
  refine wp_ck (by rw [w32_of (by omega) (by omega)]; omega) ?_
  refine wp_lt (fun a_1 e_a_1 => ?_)
  have q_a_1 : (-2147483648) ≤ a_1 ∧ a_1 ≤ 2147483647 := by rw [e_a_1]; exact scr_b _ _
  refine wp_bd (iL_readWords hσ (by first | exact q_a_1 | exact w32_rng _ | exact q_lor_rng _ _)) ?_
  rintro ⟨x_5, σ_4⟩ _ hσ_4
  replace hσ_4 : INV σ_4 := hσ_4
  dsimp only
  refine wp_ck (by rw [w32_of (by omega) (by omega)]; omega) ?_
  refine wp_lt (fun a_6 e_a_6 => ?_)
  have q_a_6 : (-2147483648) ≤ a_6 ∧ a_6 ≤ 2147483647 := by rw [e_a_6]; exact scr_b _ _
  refine wp_bd (iR_readWords hσ_4 (by first | exact q_a_6 | exact w32_rng _ | exact q_lor_rng _ _)) ?_
  rintro ⟨x_10, σ_9⟩ _ hσ_9
  replace hσ_9 : INV σ_9 := hσ_9
  dsimp only
  exact wp_some ⟨rfl, hσ_9⟩
theorem step_4 {σ : SG} {xs : Nat → Int32} {L : Nat} {i_0 : Int} (hσ : INV σ) (h1 : 1 ≤ i_0) (h2 : i_0 + 5 < (L : Int)) (hL : L ≤ 3073) : wp_ (fS_4 σ xs L i_0) (fun r => r.1 = true ∧ INV r.2) := by
  unfold fS_4
  refine wp_ck (by rw [w32_of (by omega) (by omega)]; omega) ?_
  refine wp_lt (fun a_1 e_a_1 => ?_)
  have q_a_1 : (-2147483648) ≤ a_1 ∧ a_1 ≤ 2147483647 := by rw [e_a_1]; exact scr_b _ _
  refine wp_bd (iL_readBytes hσ (by first | exact q_a_1 | exact w32_rng _ | exact q_lor_rng _ _)) ?_
  rintro ⟨x_5, σ_4⟩ _ hσ_4
  replace hσ_4 : INV σ_4 := hσ_4
  dsimp only
  refine wp_ck (by rw [w32_of (by omega) (by omega)]; omega) ?_
  refine wp_lt (fun a_6 e_a_6 => ?_)
  have q_a_6 : (-2147483648) ≤ a_6 ∧ a_6 ≤ 2147483647 := by rw [e_a_6]; exact scr_b _ _
  refine wp_bd (iR_readBytes hσ_4 (by first | exact q_a_6 | exact w32_rng _ | exact q_lor_rng _ _)) ?_
  rintro ⟨x_10, σ_9⟩ _ hσ_9
  replace hσ_9 : INV σ_9 := hσ_9
  dsimp only
  exact wp_some ⟨rfl, hσ_9⟩
theorem step_5 {σ : SG} {xs : Nat → Int32} {L : Nat} {i_0 : Int} (hσ : INV σ) (h1 : 1 ≤ i_0) (h2 : i_0 + 5 < (L : Int)) (hL : L ≤ 3073) : wp_ (fS_5 σ xs L i_0) (fun r => r.1 = true ∧ INV r.2) := by
  unfold fS_5
  refine wp_ck (by rw [w32_of (by omega) (by omega)]; omega) ?_
  refine wp_lt (fun a_1 e_a_1 => ?_)
  have q_a_1 : (-2147483648) ≤ a_1 ∧ a_1 ≤ 2147483647 := by rw [e_a_1]; exact scr_b _ _
  refine wp_bd (iL_fault hσ (by first | exact q_a_1 | exact w32_rng _ | exact q_lor_rng _ _)) ?_
  rintro ⟨x_5, σ_4⟩ _ hσ_4
  replace hσ_4 : INV σ_4 := hσ_4
  dsimp only
  refine wp_ck (by rw [w32_of (by omega) (by omega)]; omega) ?_
  refine wp_lt (fun a_6 e_a_6 => ?_)
  have q_a_6 : (-2147483648) ≤ a_6 ∧ a_6 ≤ 2147483647 := by rw [e_a_6]; exact scr_b _ _
  refine wp_bd (iR_fault hσ_4 (by first | exact q_a_6 | exact w32_rng _ | exact q_lor_rng _ _)) ?_
  rintro ⟨x_10, σ_9⟩ _ hσ_9
  replace hσ_9 : INV σ_9 := hσ_9
  dsimp only
  exact wp_some ⟨rfl, hσ_9⟩
theorem step_6 {σ : SG} {xs : Nat → Int32} {L : Nat} {i_0 : Int} (hσ : INV σ) (h1 : 1 ≤ i_0) (h2 : i_0 + 5 < (L : Int)) (hL : L ≤ 3073) : wp_ (fS_6 σ xs L i_0) (fun r => r.1 = true ∧ INV r.2) := by
  unfold fS_6
  refine wp_ck (by rw [w32_of (by omega) (by omega)]; omega) ?_
  refine wp_lt (fun a_1 e_a_1 => ?_)
  have q_a_1 : (-2147483648) ≤ a_1 ∧ a_1 ≤ 2147483647 := by rw [e_a_1]; exact scr_b _ _
  refine wp_bd (iL_writeWords hσ (by first | exact q_a_1 | exact w32_rng _ | exact q_lor_rng _ _)) ?_
  rintro ⟨x_5, σ_4⟩ _ hσ_4
  replace hσ_4 : INV σ_4 := hσ_4
  dsimp only
  refine wp_ck (by rw [w32_of (by omega) (by omega)]; omega) ?_
  refine wp_lt (fun a_6 e_a_6 => ?_)
  have q_a_6 : (-2147483648) ≤ a_6 ∧ a_6 ≤ 2147483647 := by rw [e_a_6]; exact scr_b _ _
  refine wp_bd (iR_writeWords hσ_4 (by first | exact q_a_6 | exact w32_rng _ | exact q_lor_rng _ _)) ?_
  rintro ⟨x_10, σ_9⟩ _ hσ_9
  replace hσ_9 : INV σ_9 := hσ_9
  dsimp only
  exact wp_some ⟨rfl, hσ_9⟩
theorem step_7 {σ : SG} {xs : Nat → Int32} {L : Nat} {i_0 : Int} (hσ : INV σ) (h1 : 1 ≤ i_0) (h2 : i_0 + 5 < (L : Int)) (hL : L ≤ 3073) : wp_ (fS_7 σ xs L i_0) (fun r => r.1 = true ∧ INV r.2) := by
  unfold fS_7
  refine wp_ck (by rw [w32_of (by omega) (by omega)]; omega) ?_
  refine wp_lt (fun a_1 e_a_1 => ?_)
  have q_a_1 : (-2147483648) ≤ a_1 ∧ a_1 ≤ 2147483647 := by rw [e_a_1]; exact scr_b _ _
  refine wp_ck (by rw [w32_of (by omega) (by omega)]; omega) ?_
  refine wp_lt (fun a_3 e_a_3 => ?_)
  have q_a_3 : (-2147483648) ≤ a_3 ∧ a_3 ≤ 2147483647 := by rw [e_a_3]; exact scr_b _ _
  refine wp_bd (iL_writeBytes hσ (by first | exact q_a_1 | exact w32_rng _ | exact q_lor_rng _ _) (by first | exact q_a_3 | exact w32_rng _ | exact q_lor_rng _ _)) ?_
  rintro ⟨x_7, σ_6⟩ _ hσ_6
  replace hσ_6 : INV σ_6 := hσ_6
  dsimp only
  refine wp_ck (by rw [w32_of (by omega) (by omega)]; omega) ?_
  refine wp_lt (fun a_8 e_a_8 => ?_)
  have q_a_8 : (-2147483648) ≤ a_8 ∧ a_8 ≤ 2147483647 := by rw [e_a_8]; exact scr_b _ _
  refine wp_ck (by rw [w32_of (by omega) (by omega)]; omega) ?_
  refine wp_lt (fun a_10 e_a_10 => ?_)
  have q_a_10 : (-2147483648) ≤ a_10 ∧ a_10 ≤ 2147483647 := by rw [e_a_10]; exact scr_b _ _
  refine wp_bd (iR_writeBytes hσ_6 (by first | exact q_a_8 | exact w32_rng _ | exact q_lor_rng _ _) (by first | exact q_a_10 | exact w32_rng _ | exact q_lor_rng _ _)) ?_
  rintro ⟨x_14, σ_13⟩ _ hσ_13
  replace hσ_13 : INV σ_13 := hσ_13
  dsimp only
  exact wp_some ⟨rfl, hσ_13⟩
theorem step_8 {σ : SG} {xs : Nat → Int32} {L : Nat} {i_0 : Int} (hσ : INV σ) (h1 : 1 ≤ i_0) (h2 : i_0 + 5 < (L : Int)) (hL : L ≤ 3073) : wp_ (fS_8 σ xs L i_0) (fun r => r.1 = true ∧ INV r.2) := by
  unfold fS_8
  refine wp_ck (by rw [w32_of (by omega) (by omega)]; omega) ?_
  refine wp_lt (fun a_1 e_a_1 => ?_)
  have q_a_1 : (-2147483648) ≤ a_1 ∧ a_1 ≤ 2147483647 := by rw [e_a_1]; exact scr_b _ _
  refine wp_bd (iL_byteAt hσ (by first | exact q_a_1 | exact w32_rng _ | exact q_lor_rng _ _)) ?_
  rintro ⟨x_5, σ_4⟩ _ hσ_4
  replace hσ_4 : INV σ_4 := hσ_4
  dsimp only
  refine wp_ck (by rw [w32_of (by omega) (by omega)]; omega) ?_
  refine wp_lt (fun a_6 e_a_6 => ?_)
  have q_a_6 : (-2147483648) ≤ a_6 ∧ a_6 ≤ 2147483647 := by rw [e_a_6]; exact scr_b _ _
  refine wp_bd (iR_byteAt hσ_4 (by first | exact q_a_6 | exact w32_rng _ | exact q_lor_rng _ _)) ?_
  rintro ⟨x_10, σ_9⟩ _ hσ_9
  replace hσ_9 : INV σ_9 := hσ_9
  dsimp only
  exact wp_some ⟨rfl, hσ_9⟩
theorem step_9 {σ : SG} {xs : Nat → Int32} {L : Nat} {i_0 : Int} (hσ : INV σ) (h1 : 1 ≤ i_0) (h2 : i_0 + 5 < (L : Int)) (hL : L ≤ 3073) : wp_ (fS_9 σ xs L i_0) (fun r => r.1 = true ∧ INV r.2) := by
  unfold fS_9
  refine wp_ck (by rw [w32_of (by omega) (by omega)]; omega) ?_
  refine wp_lt (fun a_1 e_a_1 => ?_)
  have q_a_1 : (-2147483648) ≤ a_1 ∧ a_1 ≤ 2147483647 := by rw [e_a_1]; exact scr_b _ _
  refine wp_ck (by rw [w32_of (by omega) (by omega)]; omega) ?_
  refine wp_lt (fun a_3 e_a_3 => ?_)
  have q_a_3 : (-2147483648) ≤ a_3 ∧ a_3 ≤ 2147483647 := by rw [e_a_3]; exact scr_b _ _
  refine wp_bd (iL_copy hσ (by first | exact q_a_1 | exact w32_rng _ | exact q_lor_rng _ _) (by first | exact q_a_3 | exact w32_rng _ | exact q_lor_rng _ _)) ?_
  rintro ⟨x_7, σ_6⟩ _ hσ_6
  replace hσ_6 : INV σ_6 := hσ_6
  dsimp only
  refine wp_ck (by rw [w32_of (by omega) (by omega)]; omega) ?_
  refine wp_lt (fun a_8 e_a_8 => ?_)
  have q_a_8 : (-2147483648) ≤ a_8 ∧ a_8 ≤ 2147483647 := by rw [e_a_8]; exact scr_b _ _
  refine wp_ck (by rw [w32_of (by omega) (by omega)]; omega) ?_
  refine wp_lt (fun a_10 e_a_10 => ?_)
  have q_a_10 : (-2147483648) ≤ a_10 ∧ a_10 ≤ 2147483647 := by rw [e_a_10]; exact scr_b _ _
  refine wp_bd (iR_copy hσ_6 (by first | exact q_a_8 | exact w32_rng _ | exact q_lor_rng _ _) (by first | exact q_a_10 | exact w32_rng _ | exact q_lor_rng _ _)) ?_
  rintro ⟨x_14, σ_13⟩ _ hσ_13
  replace hσ_13 : INV σ_13 := hσ_13
  dsimp only
  exact wp_some ⟨rfl, hσ_13⟩
theorem step_10 {σ : SG} {xs : Nat → Int32} {L : Nat} {i_0 : Int} (hσ : INV σ) (h1 : 1 ≤ i_0) (h2 : i_0 + 5 < (L : Int)) (hL : L ≤ 3073) : wp_ (fS_10 σ xs L i_0) (fun r => r.1 = true ∧ INV r.2) := by
  unfold fS_10
  refine wp_ck (by rw [w32_of (by omega) (by omega)]; omega) ?_
  refine wp_lt (fun a_1 e_a_1 => ?_)
  have q_a_1 : (-2147483648) ≤ a_1 ∧ a_1 ≤ 2147483647 := by rw [e_a_1]; exact scr_b _ _
  refine wp_bd (iL_drop hσ (by first | exact q_a_1 | exact w32_rng _ | exact q_lor_rng _ _)) ?_
  rintro ⟨x_5, σ_4⟩ _ hσ_4
  replace hσ_4 : INV σ_4 := hσ_4
  dsimp only
  refine wp_ck (by rw [w32_of (by omega) (by omega)]; omega) ?_
  refine wp_lt (fun a_6 e_a_6 => ?_)
  have q_a_6 : (-2147483648) ≤ a_6 ∧ a_6 ≤ 2147483647 := by rw [e_a_6]; exact scr_b _ _
  refine wp_bd (iR_drop hσ_4 (by first | exact q_a_6 | exact w32_rng _ | exact q_lor_rng _ _)) ?_
  rintro ⟨x_10, σ_9⟩ _ hσ_9
  replace hσ_9 : INV σ_9 := hσ_9
  dsimp only
  exact wp_some ⟨rfl, hσ_9⟩
theorem step_11 {σ : SG} {xs : Nat → Int32} {L : Nat} {i_0 : Int} (hσ : INV σ) (h1 : 1 ≤ i_0) (h2 : i_0 + 5 < (L : Int)) (hL : L ≤ 3073) : wp_ (fS_11 σ xs L i_0) (fun r => r.1 = true ∧ INV r.2) := by
  unfold fS_11
  refine wp_ck (by rw [w32_of (by omega) (by omega)]; omega) ?_
  refine wp_lt (fun a_1 e_a_1 => ?_)
  have q_a_1 : (-2147483648) ≤ a_1 ∧ a_1 ≤ 2147483647 := by rw [e_a_1]; exact scr_b _ _
  refine wp_ck (by rw [w32_of (by omega) (by omega)]; omega) ?_
  refine wp_lt (fun a_3 e_a_3 => ?_)
  have q_a_3 : (-2147483648) ≤ a_3 ∧ a_3 ≤ 2147483647 := by rw [e_a_3]; exact scr_b _ _
  refine wp_bd (iL_same hσ (by first | exact q_a_1 | exact w32_rng _ | exact q_lor_rng _ _) (by first | exact q_a_3 | exact w32_rng _ | exact q_lor_rng _ _)) ?_
  rintro ⟨x_7, σ_6⟩ _ hσ_6
  replace hσ_6 : INV σ_6 := hσ_6
  dsimp only
  refine wp_ck (by rw [w32_of (by omega) (by omega)]; omega) ?_
  refine wp_lt (fun a_8 e_a_8 => ?_)
  have q_a_8 : (-2147483648) ≤ a_8 ∧ a_8 ≤ 2147483647 := by rw [e_a_8]; exact scr_b _ _
  refine wp_ck (by rw [w32_of (by omega) (by omega)]; omega) ?_
  refine wp_lt (fun a_10 e_a_10 => ?_)
  have q_a_10 : (-2147483648) ≤ a_10 ∧ a_10 ≤ 2147483647 := by rw [e_a_10]; exact scr_b _ _
  refine wp_bd (iR_same hσ_6 (by first | exact q_a_8 | exact w32_rng _ | exact q_lor_rng _ _) (by first | exact q_a_10 | exact w32_rng _ | exact q_lor_rng _ _)) ?_
  rintro ⟨x_14, σ_13⟩ _ hσ_13
  replace hσ_13 : INV σ_13 := hσ_13
  dsimp only
  exact wp_some ⟨rfl, hσ_13⟩
theorem step_12 {σ : SG} {xs : Nat → Int32} {L : Nat} {i_0 : Int} (hσ : INV σ) (h1 : 1 ≤ i_0) (h2 : i_0 + 5 < (L : Int)) (hL : L ≤ 3073) : wp_ (fS_12 σ xs L i_0) (fun r => r.1 = true ∧ INV r.2) := by
  unfold fS_12
  refine wp_ck (by rw [w32_of (by omega) (by omega)]; omega) ?_
  refine wp_lt (fun a_1 e_a_1 => ?_)
  have q_a_1 : (-2147483648) ≤ a_1 ∧ a_1 ≤ 2147483647 := by rw [e_a_1]; exact scr_b _ _
  refine wp_bd (iL_judge hσ (by first | exact q_a_1 | exact w32_rng _ | exact q_lor_rng _ _)) ?_
  rintro ⟨x_5, σ_4⟩ _ hσ_4
  replace hσ_4 : INV σ_4 := hσ_4
  dsimp only
  refine wp_ck (by rw [w32_of (by omega) (by omega)]; omega) ?_
  refine wp_lt (fun a_6 e_a_6 => ?_)
  have q_a_6 : (-2147483648) ≤ a_6 ∧ a_6 ≤ 2147483647 := by rw [e_a_6]; exact scr_b _ _
  refine wp_bd (iR_judge hσ_4 (by first | exact q_a_6 | exact w32_rng _ | exact q_lor_rng _ _)) ?_
  rintro ⟨x_10, σ_9⟩ _ hσ_9
  replace hσ_9 : INV σ_9 := hσ_9
  dsimp only
  exact wp_some ⟨rfl, hσ_9⟩
theorem step_13 {σ : SG} {xs : Nat → Int32} {L : Nat} {i_0 : Int} (hσ : INV σ) (h1 : 1 ≤ i_0) (h2 : i_0 + 5 < (L : Int)) (hL : L ≤ 3073) : wp_ (fS_13 σ xs L i_0) (fun r => r.1 = true ∧ INV r.2) := by
  unfold fS_13
  refine wp_ck (by rw [w32_of (by omega) (by omega)]; omega) ?_
  refine wp_lt (fun a_1 e_a_1 => ?_)
  have q_a_1 : (-2147483648) ≤ a_1 ∧ a_1 ≤ 2147483647 := by rw [e_a_1]; exact scr_b _ _
  refine wp_bd (iL_place hσ (by first | exact q_a_1 | exact w32_rng _ | exact q_lor_rng _ _)) ?_
  rintro ⟨x_5, σ_4⟩ _ hσ_4
  replace hσ_4 : INV σ_4 := hσ_4
  dsimp only
  refine wp_ck (by rw [w32_of (by omega) (by omega)]; omega) ?_
  refine wp_lt (fun a_6 e_a_6 => ?_)
  have q_a_6 : (-2147483648) ≤ a_6 ∧ a_6 ≤ 2147483647 := by rw [e_a_6]; exact scr_b _ _
  refine wp_bd (iR_place hσ_4 (by first | exact q_a_6 | exact w32_rng _ | exact q_lor_rng _ _)) ?_
  rintro ⟨x_10, σ_9⟩ _ hσ_9
  replace hσ_9 : INV σ_9 := hσ_9
  dsimp only
  exact wp_some ⟨rfl, hσ_9⟩
theorem step_14 {σ : SG} {xs : Nat → Int32} {L : Nat} {i_0 : Int} (hσ : INV σ) (h1 : 1 ≤ i_0) (h2 : i_0 + 5 < (L : Int)) (hL : L ≤ 3073) : wp_ (fS_14 σ xs L i_0) (fun r => r.1 = true ∧ INV r.2) := by
  unfold fS_14
  refine wp_ck (by rw [w32_of (by omega) (by omega)]; omega) ?_
  refine wp_lt (fun a_1 e_a_1 => ?_)
  have q_a_1 : (-2147483648) ≤ a_1 ∧ a_1 ≤ 2147483647 := by rw [e_a_1]; exact scr_b _ _
  refine wp_ck (by rw [w32_of (by omega) (by omega)]; omega) ?_
  refine wp_lt (fun a_3 e_a_3 => ?_)
  have q_a_3 : (-2147483648) ≤ a_3 ∧ a_3 ≤ 2147483647 := by rw [e_a_3]; exact scr_b _ _
  refine wp_ck (by rw [w32_of (by omega) (by omega)]; omega) ?_
  refine wp_lt (fun a_5 e_a_5 => ?_)
  have q_a_5 : (-2147483648) ≤ a_5 ∧ a_5 ≤ 2147483647 := by rw [e_a_5]; exact scr_b _ _
  refine wp_ck (by rw [w32_of (by omega) (by omega)]; omega) ?_
  refine wp_lt (fun a_7 e_a_7 => ?_)
  have q_a_7 : (-2147483648) ≤ a_7 ∧ a_7 ≤ 2147483647 := by rw [e_a_7]; exact scr_b _ _
  refine wp_bd (iL_overlay hσ (by first | exact q_a_1 | exact w32_rng _ | exact q_lor_rng _ _) (by first | exact q_a_3 | exact w32_rng _ | exact q_lor_rng _ _) (by first | exact q_a_5 | exact w32_rng _ | exact q_lor_rng _ _) (by first | exact q_a_7 | exact w32_rng _ | exact q_lor_rng _ _)) ?_
  rintro ⟨x_11, σ_10⟩ _ hσ_10
  replace hσ_10 : INV σ_10 := hσ_10
  dsimp only
  refine wp_ck (by rw [w32_of (by omega) (by omega)]; omega) ?_
  refine wp_lt (fun a_12 e_a_12 => ?_)
  have q_a_12 : (-2147483648) ≤ a_12 ∧ a_12 ≤ 2147483647 := by rw [e_a_12]; exact scr_b _ _
  refine wp_ck (by rw [w32_of (by omega) (by omega)]; omega) ?_
  refine wp_lt (fun a_14 e_a_14 => ?_)
  have q_a_14 : (-2147483648) ≤ a_14 ∧ a_14 ≤ 2147483647 := by rw [e_a_14]; exact scr_b _ _
  refine wp_ck (by rw [w32_of (by omega) (by omega)]; omega) ?_
  refine wp_lt (fun a_16 e_a_16 => ?_)
  have q_a_16 : (-2147483648) ≤ a_16 ∧ a_16 ≤ 2147483647 := by rw [e_a_16]; exact scr_b _ _
  refine wp_ck (by rw [w32_of (by omega) (by omega)]; omega) ?_
  refine wp_lt (fun a_18 e_a_18 => ?_)
  have q_a_18 : (-2147483648) ≤ a_18 ∧ a_18 ≤ 2147483647 := by rw [e_a_18]; exact scr_b _ _
  refine wp_bd (iR_overlay hσ_10 (by first | exact q_a_12 | exact w32_rng _ | exact q_lor_rng _ _) (by first | exact q_a_14 | exact w32_rng _ | exact q_lor_rng _ _) (by first | exact q_a_16 | exact w32_rng _ | exact q_lor_rng _ _) (by first | exact q_a_18 | exact w32_rng _ | exact q_lor_rng _ _)) ?_
  rintro ⟨x_22, σ_21⟩ _ hσ_21
  replace hσ_21 : INV σ_21 := hσ_21
  dsimp only
  exact wp_some ⟨rfl, hσ_21⟩
theorem step_15 {σ : SG} {xs : Nat → Int32} {L : Nat} {i_0 : Int} (hσ : INV σ) (h1 : 1 ≤ i_0) (h2 : i_0 + 5 < (L : Int)) (hL : L ≤ 3073) : wp_ (fS_15 σ xs L i_0) (fun r => r.1 = true ∧ INV r.2) := by
  unfold fS_15
  refine wp_ck (by rw [w32_of (by omega) (by omega)]; omega) ?_
  refine wp_lt (fun a_1 e_a_1 => ?_)
  have q_a_1 : (-2147483648) ≤ a_1 ∧ a_1 ≤ 2147483647 := by rw [e_a_1]; exact scr_b _ _
  refine wp_ck (by rw [w32_of (by omega) (by omega)]; omega) ?_
  refine wp_lt (fun a_3 e_a_3 => ?_)
  have q_a_3 : (-2147483648) ≤ a_3 ∧ a_3 ≤ 2147483647 := by rw [e_a_3]; exact scr_b _ _
  refine wp_bd (iL_relate hσ (by first | exact q_a_1 | exact w32_rng _ | exact q_lor_rng _ _) (by first | exact q_a_3 | exact w32_rng _ | exact q_lor_rng _ _)) ?_
  rintro ⟨x_7, σ_6⟩ _ hσ_6
  replace hσ_6 : INV σ_6 := hσ_6
  dsimp only
  refine wp_ck (by rw [w32_of (by omega) (by omega)]; omega) ?_
  refine wp_lt (fun a_8 e_a_8 => ?_)
  have q_a_8 : (-2147483648) ≤ a_8 ∧ a_8 ≤ 2147483647 := by rw [e_a_8]; exact scr_b _ _
  refine wp_ck (by rw [w32_of (by omega) (by omega)]; omega) ?_
  refine wp_lt (fun a_10 e_a_10 => ?_)
  have q_a_10 : (-2147483648) ≤ a_10 ∧ a_10 ≤ 2147483647 := by rw [e_a_10]; exact scr_b _ _
  refine wp_bd (iR_relate hσ_6 (by first | exact q_a_8 | exact w32_rng _ | exact q_lor_rng _ _) (by first | exact q_a_10 | exact w32_rng _ | exact q_lor_rng _ _)) ?_
  rintro ⟨x_14, σ_13⟩ _ hσ_13
  replace hσ_13 : INV σ_13 := hσ_13
  dsimp only
  exact wp_some ⟨rfl, hσ_13⟩
theorem step_16 {σ : SG} {xs : Nat → Int32} {L : Nat} {i_0 : Int} (hσ : INV σ) (h1 : 1 ≤ i_0) (h2 : i_0 + 5 < (L : Int)) (hL : L ≤ 3073) : wp_ (fS_16 σ xs L i_0) (fun r => r.1 = true ∧ INV r.2) := by
  unfold fS_16
  refine wp_ck (by rw [w32_of (by omega) (by omega)]; omega) ?_
  refine wp_lt (fun a_1 e_a_1 => ?_)
  have q_a_1 : (-2147483648) ≤ a_1 ∧ a_1 ≤ 2147483647 := by rw [e_a_1]; exact scr_b _ _
  refine wp_ck (by rw [w32_of (by omega) (by omega)]; omega) ?_
  refine wp_lt (fun a_3 e_a_3 => ?_)
  have q_a_3 : (-2147483648) ≤ a_3 ∧ a_3 ≤ 2147483647 := by rw [e_a_3]; exact scr_b _ _
  refine wp_ck (by rw [w32_of (by omega) (by omega)]; omega) ?_
  refine wp_lt (fun a_5 e_a_5 => ?_)
  have q_a_5 : (-2147483648) ≤ a_5 ∧ a_5 ≤ 2147483647 := by rw [e_a_5]; exact scr_b _ _
  refine wp_bd (iL_is hσ (by first | exact q_a_1 | exact w32_rng _ | exact q_lor_rng _ _) (by first | exact q_a_3 | exact w32_rng _ | exact q_lor_rng _ _) (by first | exact q_a_5 | exact w32_rng _ | exact q_lor_rng _ _)) ?_
  rintro ⟨x_9, σ_8⟩ _ hσ_8
  replace hσ_8 : INV σ_8 := hσ_8
  dsimp only
  refine wp_ck (by rw [w32_of (by omega) (by omega)]; omega) ?_
  refine wp_lt (fun a_10 e_a_10 => ?_)
  have q_a_10 : (-2147483648) ≤ a_10 ∧ a_10 ≤ 2147483647 := by rw [e_a_10]; exact scr_b _ _
  refine wp_ck (by rw [w32_of (by omega) (by omega)]; omega) ?_
  refine wp_lt (fun a_12 e_a_12 => ?_)
  have q_a_12 : (-2147483648) ≤ a_12 ∧ a_12 ≤ 2147483647 := by rw [e_a_12]; exact scr_b _ _
  refine wp_ck (by rw [w32_of (by omega) (by omega)]; omega) ?_
  refine wp_lt (fun a_14 e_a_14 => ?_)
  have q_a_14 : (-2147483648) ≤ a_14 ∧ a_14 ≤ 2147483647 := by rw [e_a_14]; exact scr_b _ _
  refine wp_bd (iR_is hσ_8 (by first | exact q_a_10 | exact w32_rng _ | exact q_lor_rng _ _) (by first | exact q_a_12 | exact w32_rng _ | exact q_lor_rng _ _) (by first | exact q_a_14 | exact w32_rng _ | exact q_lor_rng _ _)) ?_
  rintro ⟨x_18, σ_17⟩ _ hσ_17
  replace hσ_17 : INV σ_17 := hσ_17
  dsimp only
  exact wp_some ⟨rfl, hσ_17⟩
theorem step_17 {σ : SG} {xs : Nat → Int32} {L : Nat} {i_0 : Int} (hσ : INV σ) (h1 : 1 ≤ i_0) (h2 : i_0 + 5 < (L : Int)) (hL : L ≤ 3073) : wp_ (fS_17 σ xs L i_0) (fun r => r.1 = true ∧ INV r.2) := by
  unfold fS_17
  refine wp_ck (by rw [w32_of (by omega) (by omega)]; omega) ?_
  refine wp_lt (fun a_1 e_a_1 => ?_)
  have q_a_1 : (-2147483648) ≤ a_1 ∧ a_1 ≤ 2147483647 := by rw [e_a_1]; exact scr_b _ _
  refine wp_ck (by rw [w32_of (by omega) (by omega)]; omega) ?_
  refine wp_lt (fun a_3 e_a_3 => ?_)
  have q_a_3 : (-2147483648) ≤ a_3 ∧ a_3 ≤ 2147483647 := by rw [e_a_3]; exact scr_b _ _
  refine wp_ck (by rw [w32_of (by omega) (by omega)]; omega) ?_
  refine wp_lt (fun a_5 e_a_5 => ?_)
  have q_a_5 : (-2147483648) ≤ a_5 ∧ a_5 ≤ 2147483647 := by rw [e_a_5]; exact scr_b _ _
  refine wp_bd (iL_locate hσ (by first | exact q_a_1 | exact w32_rng _ | exact q_lor_rng _ _) (by first | exact q_a_3 | exact w32_rng _ | exact q_lor_rng _ _) (by first | exact q_a_5 | exact w32_rng _ | exact q_lor_rng _ _)) ?_
  rintro ⟨x_9, σ_8⟩ _ hσ_8
  replace hσ_8 : INV σ_8 := hσ_8
  dsimp only
  refine wp_ck (by rw [w32_of (by omega) (by omega)]; omega) ?_
  refine wp_lt (fun a_10 e_a_10 => ?_)
  have q_a_10 : (-2147483648) ≤ a_10 ∧ a_10 ≤ 2147483647 := by rw [e_a_10]; exact scr_b _ _
  refine wp_ck (by rw [w32_of (by omega) (by omega)]; omega) ?_
  refine wp_lt (fun a_12 e_a_12 => ?_)
  have q_a_12 : (-2147483648) ≤ a_12 ∧ a_12 ≤ 2147483647 := by rw [e_a_12]; exact scr_b _ _
  refine wp_ck (by rw [w32_of (by omega) (by omega)]; omega) ?_
  refine wp_lt (fun a_14 e_a_14 => ?_)
  have q_a_14 : (-2147483648) ≤ a_14 ∧ a_14 ≤ 2147483647 := by rw [e_a_14]; exact scr_b _ _
  refine wp_bd (iR_locate hσ_8 (by first | exact q_a_10 | exact w32_rng _ | exact q_lor_rng _ _) (by first | exact q_a_12 | exact w32_rng _ | exact q_lor_rng _ _) (by first | exact q_a_14 | exact w32_rng _ | exact q_lor_rng _ _)) ?_
  rintro ⟨x_18, σ_17⟩ _ hσ_17
  replace hσ_17 : INV σ_17 := hσ_17
  dsimp only
  exact wp_some ⟨rfl, hσ_17⟩
theorem step_18 {σ : SG} {xs : Nat → Int32} {L : Nat} {i_0 : Int} (hσ : INV σ) (h1 : 1 ≤ i_0) (h2 : i_0 + 5 < (L : Int)) (hL : L ≤ 3073) : wp_ (fS_18 σ xs L i_0) (fun r => r.1 = true ∧ INV r.2) := by
  unfold fS_18
  refine wp_ck (by rw [w32_of (by omega) (by omega)]; omega) ?_
  refine wp_lt (fun a_1 e_a_1 => ?_)
  have q_a_1 : (-2147483648) ≤ a_1 ∧ a_1 ≤ 2147483647 := by rw [e_a_1]; exact scr_b _ _
  refine wp_ck (by rw [w32_of (by omega) (by omega)]; omega) ?_
  refine wp_lt (fun a_3 e_a_3 => ?_)
  have q_a_3 : (-2147483648) ≤ a_3 ∧ a_3 ≤ 2147483647 := by rw [e_a_3]; exact scr_b _ _
  refine wp_bd (iL_hull hσ (by first | exact q_a_1 | exact w32_rng _ | exact q_lor_rng _ _) (by first | exact q_a_3 | exact w32_rng _ | exact q_lor_rng _ _)) ?_
  rintro ⟨x_7, σ_6⟩ _ hσ_6
  replace hσ_6 : INV σ_6 := hσ_6
  dsimp only
  refine wp_ck (by rw [w32_of (by omega) (by omega)]; omega) ?_
  refine wp_lt (fun a_8 e_a_8 => ?_)
  have q_a_8 : (-2147483648) ≤ a_8 ∧ a_8 ≤ 2147483647 := by rw [e_a_8]; exact scr_b _ _
  refine wp_ck (by rw [w32_of (by omega) (by omega)]; omega) ?_
  refine wp_lt (fun a_10 e_a_10 => ?_)
  have q_a_10 : (-2147483648) ≤ a_10 ∧ a_10 ≤ 2147483647 := by rw [e_a_10]; exact scr_b _ _
  refine wp_bd (iR_hull hσ_6 (by first | exact q_a_8 | exact w32_rng _ | exact q_lor_rng _ _) (by first | exact q_a_10 | exact w32_rng _ | exact q_lor_rng _ _)) ?_
  rintro ⟨x_14, σ_13⟩ _ hσ_13
  replace hσ_13 : INV σ_13 := hσ_13
  dsimp only
  exact wp_some ⟨rfl, hσ_13⟩
theorem step_19 {σ : SG} {xs : Nat → Int32} {L : Nat} {i_0 : Int} (hσ : INV σ) (h1 : 1 ≤ i_0) (h2 : i_0 + 5 < (L : Int)) (hL : L ≤ 3073) : wp_ (fS_19 σ xs L i_0) (fun r => r.1 = true ∧ INV r.2) := by
  unfold fS_19
  refine wp_ck (by rw [w32_of (by omega) (by omega)]; omega) ?_
  refine wp_lt (fun a_1 e_a_1 => ?_)
  have q_a_1 : (-2147483648) ≤ a_1 ∧ a_1 ≤ 2147483647 := by rw [e_a_1]; exact scr_b _ _
  refine wp_ck (by rw [w32_of (by omega) (by omega)]; omega) ?_
  refine wp_lt (fun a_3 e_a_3 => ?_)
  have q_a_3 : (-2147483648) ≤ a_3 ∧ a_3 ≤ 2147483647 := by rw [e_a_3]; exact scr_b _ _
  refine wp_bd (iL_triangles hσ (by first | exact q_a_1 | exact w32_rng _ | exact q_lor_rng _ _) (by first | exact q_a_3 | exact w32_rng _ | exact q_lor_rng _ _)) ?_
  rintro ⟨x_7, σ_6⟩ _ hσ_6
  replace hσ_6 : INV σ_6 := hσ_6
  dsimp only
  refine wp_ck (by rw [w32_of (by omega) (by omega)]; omega) ?_
  refine wp_lt (fun a_8 e_a_8 => ?_)
  have q_a_8 : (-2147483648) ≤ a_8 ∧ a_8 ≤ 2147483647 := by rw [e_a_8]; exact scr_b _ _
  refine wp_ck (by rw [w32_of (by omega) (by omega)]; omega) ?_
  refine wp_lt (fun a_10 e_a_10 => ?_)
  have q_a_10 : (-2147483648) ≤ a_10 ∧ a_10 ≤ 2147483647 := by rw [e_a_10]; exact scr_b _ _
  refine wp_bd (iR_triangles hσ_6 (by first | exact q_a_8 | exact w32_rng _ | exact q_lor_rng _ _) (by first | exact q_a_10 | exact w32_rng _ | exact q_lor_rng _ _)) ?_
  rintro ⟨x_14, σ_13⟩ _ hσ_13
  replace hσ_13 : INV σ_13 := hσ_13
  dsimp only
  exact wp_some ⟨rfl, hσ_13⟩
theorem step_20 {σ : SG} {xs : Nat → Int32} {L : Nat} {i_0 : Int} (hσ : INV σ) (h1 : 1 ≤ i_0) (h2 : i_0 + 5 < (L : Int)) (hL : L ≤ 3073) : wp_ (fS_20 σ xs L i_0) (fun r => r.1 = true ∧ INV r.2) := by
  unfold fS_20
  refine wp_ck (by rw [w32_of (by omega) (by omega)]; omega) ?_
  refine wp_lt (fun a_1 e_a_1 => ?_)
  have q_a_1 : (-2147483648) ≤ a_1 ∧ a_1 ≤ 2147483647 := by rw [e_a_1]; exact scr_b _ _
  refine wp_ck (by rw [w32_of (by omega) (by omega)]; omega) ?_
  refine wp_lt (fun a_3 e_a_3 => ?_)
  have q_a_3 : (-2147483648) ≤ a_3 ∧ a_3 ≤ 2147483647 := by rw [e_a_3]; exact scr_b _ _
  refine wp_ck (by rw [w32_of (by omega) (by omega)]; omega) ?_
  refine wp_lt (fun a_5 e_a_5 => ?_)
  have q_a_5 : (-2147483648) ≤ a_5 ∧ a_5 ≤ 2147483647 := by rw [e_a_5]; exact scr_b _ _
  refine wp_bd (iL_simplify hσ (by first | exact q_a_1 | exact w32_rng _ | exact q_lor_rng _ _) (by first | exact q_a_3 | exact w32_rng _ | exact q_lor_rng _ _) (by first | exact q_a_5 | exact w32_rng _ | exact q_lor_rng _ _)) ?_
  rintro ⟨x_9, σ_8⟩ _ hσ_8
  replace hσ_8 : INV σ_8 := hσ_8
  dsimp only
  refine wp_ck (by rw [w32_of (by omega) (by omega)]; omega) ?_
  refine wp_lt (fun a_10 e_a_10 => ?_)
  have q_a_10 : (-2147483648) ≤ a_10 ∧ a_10 ≤ 2147483647 := by rw [e_a_10]; exact scr_b _ _
  refine wp_ck (by rw [w32_of (by omega) (by omega)]; omega) ?_
  refine wp_lt (fun a_12 e_a_12 => ?_)
  have q_a_12 : (-2147483648) ≤ a_12 ∧ a_12 ≤ 2147483647 := by rw [e_a_12]; exact scr_b _ _
  refine wp_ck (by rw [w32_of (by omega) (by omega)]; omega) ?_
  refine wp_lt (fun a_14 e_a_14 => ?_)
  have q_a_14 : (-2147483648) ≤ a_14 ∧ a_14 ≤ 2147483647 := by rw [e_a_14]; exact scr_b _ _
  refine wp_bd (iR_simplify hσ_8 (by first | exact q_a_10 | exact w32_rng _ | exact q_lor_rng _ _) (by first | exact q_a_12 | exact w32_rng _ | exact q_lor_rng _ _) (by first | exact q_a_14 | exact w32_rng _ | exact q_lor_rng _ _)) ?_
  rintro ⟨x_18, σ_17⟩ _ hσ_17
  replace hσ_17 : INV σ_17 := hσ_17
  dsimp only
  exact wp_some ⟨rfl, hσ_17⟩
theorem step_21 {σ : SG} {xs : Nat → Int32} {L : Nat} {i_0 : Int} (hσ : INV σ) (h1 : 1 ≤ i_0) (h2 : i_0 + 5 < (L : Int)) (hL : L ≤ 3073) : wp_ (fS_21 σ xs L i_0) (fun r => r.1 = true ∧ INV r.2) := by
  unfold fS_21
  refine wp_ck (by rw [w32_of (by omega) (by omega)]; omega) ?_
  refine wp_lt (fun a_1 e_a_1 => ?_)
  have q_a_1 : (-2147483648) ≤ a_1 ∧ a_1 ≤ 2147483647 := by rw [e_a_1]; exact scr_b _ _
  refine wp_bd (iL_area hσ (by first | exact q_a_1 | exact w32_rng _ | exact q_lor_rng _ _)) ?_
  rintro ⟨x_5, σ_4⟩ _ hσ_4
  replace hσ_4 : INV σ_4 := hσ_4
  dsimp only
  refine wp_ck (by rw [w32_of (by omega) (by omega)]; omega) ?_
  refine wp_lt (fun a_6 e_a_6 => ?_)
  have q_a_6 : (-2147483648) ≤ a_6 ∧ a_6 ≤ 2147483647 := by rw [e_a_6]; exact scr_b _ _
  refine wp_bd (iR_area hσ_4 (by first | exact q_a_6 | exact w32_rng _ | exact q_lor_rng _ _)) ?_
  rintro ⟨x_10, σ_9⟩ _ hσ_9
  replace hσ_9 : INV σ_9 := hσ_9
  dsimp only
  exact wp_some ⟨rfl, hσ_9⟩
theorem step_22 {σ : SG} {xs : Nat → Int32} {L : Nat} {i_0 : Int} (hσ : INV σ) (h1 : 1 ≤ i_0) (h2 : i_0 + 5 < (L : Int)) (hL : L ≤ 3073) : wp_ (fS_22 σ xs L i_0) (fun r => r.1 = true ∧ INV r.2) := by
  unfold fS_22
  refine wp_ck (by rw [w32_of (by omega) (by omega)]; omega) ?_
  refine wp_lt (fun a_1 e_a_1 => ?_)
  have q_a_1 : (-2147483648) ≤ a_1 ∧ a_1 ≤ 2147483647 := by rw [e_a_1]; exact scr_b _ _
  refine wp_ck (by rw [w32_of (by omega) (by omega)]; omega) ?_
  refine wp_lt (fun a_3 e_a_3 => ?_)
  have q_a_3 : (-2147483648) ≤ a_3 ∧ a_3 ≤ 2147483647 := by rw [e_a_3]; exact scr_b _ _
  refine wp_bd (iL_bounds hσ (by first | exact q_a_1 | exact w32_rng _ | exact q_lor_rng _ _) (by first | exact q_a_3 | exact w32_rng _ | exact q_lor_rng _ _)) ?_
  rintro ⟨x_7, σ_6⟩ _ hσ_6
  replace hσ_6 : INV σ_6 := hσ_6
  dsimp only
  refine wp_ck (by rw [w32_of (by omega) (by omega)]; omega) ?_
  refine wp_lt (fun a_8 e_a_8 => ?_)
  have q_a_8 : (-2147483648) ≤ a_8 ∧ a_8 ≤ 2147483647 := by rw [e_a_8]; exact scr_b _ _
  refine wp_ck (by rw [w32_of (by omega) (by omega)]; omega) ?_
  refine wp_lt (fun a_10 e_a_10 => ?_)
  have q_a_10 : (-2147483648) ≤ a_10 ∧ a_10 ≤ 2147483647 := by rw [e_a_10]; exact scr_b _ _
  refine wp_bd (iR_bounds hσ_6 (by first | exact q_a_8 | exact w32_rng _ | exact q_lor_rng _ _) (by first | exact q_a_10 | exact w32_rng _ | exact q_lor_rng _ _)) ?_
  rintro ⟨x_14, σ_13⟩ _ hσ_13
  replace hσ_13 : INV σ_13 := hσ_13
  dsimp only
  exact wp_some ⟨rfl, hσ_13⟩
theorem step_23 {σ : SG} {xs : Nat → Int32} {L : Nat} {i_0 : Int} (hσ : INV σ) (h1 : 1 ≤ i_0) (h2 : i_0 + 5 < (L : Int)) (hL : L ≤ 3073) : wp_ (fS_23 σ xs L i_0) (fun r => r.1 = true ∧ INV r.2) := by
  unfold fS_23
  refine wp_ck (by rw [w32_of (by omega) (by omega)]; omega) ?_
  refine wp_lt (fun a_1 e_a_1 => ?_)
  have q_a_1 : (-2147483648) ≤ a_1 ∧ a_1 ≤ 2147483647 := by rw [e_a_1]; exact scr_b _ _
  refine wp_ck (by rw [w32_of (by omega) (by omega)]; omega) ?_
  refine wp_lt (fun a_3 e_a_3 => ?_)
  have q_a_3 : (-2147483648) ≤ a_3 ∧ a_3 ≤ 2147483647 := by rw [e_a_3]; exact scr_b _ _
  refine wp_ck (by rw [w32_of (by omega) (by omega)]; omega) ?_
  refine wp_lt (fun a_5 e_a_5 => ?_)
  have q_a_5 : (-2147483648) ≤ a_5 ∧ a_5 ≤ 2147483647 := by rw [e_a_5]; exact scr_b _ _
  refine wp_ck (by rw [w32_of (by omega) (by omega)]; omega) ?_
  refine wp_lt (fun a_7 e_a_7 => ?_)
  have q_a_7 : (-2147483648) ≤ a_7 ∧ a_7 ≤ 2147483647 := by rw [e_a_7]; exact scr_b _ _
  refine wp_ck (by rw [w32_of (by omega) (by omega)]; omega) ?_
  refine wp_lt (fun a_9 e_a_9 => ?_)
  have q_a_9 : (-2147483648) ≤ a_9 ∧ a_9 ≤ 2147483647 := by rw [e_a_9]; exact scr_b _ _
  refine wp_bd (iL_find hσ (by first | exact q_a_1 | exact w32_rng _ | exact q_lor_rng _ _) (by first | exact q_a_3 | exact w32_rng _ | exact q_lor_rng _ _) (by first | exact q_a_5 | exact w32_rng _ | exact q_lor_rng _ _) (by first | exact q_a_7 | exact w32_rng _ | exact q_lor_rng _ _) (by first | exact q_a_9 | exact w32_rng _ | exact q_lor_rng _ _)) ?_
  rintro ⟨x_13, σ_12⟩ _ hσ_12
  replace hσ_12 : INV σ_12 := hσ_12
  dsimp only
  refine wp_ck (by rw [w32_of (by omega) (by omega)]; omega) ?_
  refine wp_lt (fun a_14 e_a_14 => ?_)
  have q_a_14 : (-2147483648) ≤ a_14 ∧ a_14 ≤ 2147483647 := by rw [e_a_14]; exact scr_b _ _
  refine wp_ck (by rw [w32_of (by omega) (by omega)]; omega) ?_
  refine wp_lt (fun a_16 e_a_16 => ?_)
  have q_a_16 : (-2147483648) ≤ a_16 ∧ a_16 ≤ 2147483647 := by rw [e_a_16]; exact scr_b _ _
  refine wp_ck (by rw [w32_of (by omega) (by omega)]; omega) ?_
  refine wp_lt (fun a_18 e_a_18 => ?_)
  have q_a_18 : (-2147483648) ≤ a_18 ∧ a_18 ≤ 2147483647 := by rw [e_a_18]; exact scr_b _ _
  refine wp_ck (by rw [w32_of (by omega) (by omega)]; omega) ?_
  refine wp_lt (fun a_20 e_a_20 => ?_)
  have q_a_20 : (-2147483648) ≤ a_20 ∧ a_20 ≤ 2147483647 := by rw [e_a_20]; exact scr_b _ _
  refine wp_ck (by rw [w32_of (by omega) (by omega)]; omega) ?_
  refine wp_lt (fun a_22 e_a_22 => ?_)
  have q_a_22 : (-2147483648) ≤ a_22 ∧ a_22 ≤ 2147483647 := by rw [e_a_22]; exact scr_b _ _
  refine wp_bd (iR_find hσ_12 (by first | exact q_a_14 | exact w32_rng _ | exact q_lor_rng _ _) (by first | exact q_a_16 | exact w32_rng _ | exact q_lor_rng _ _) (by first | exact q_a_18 | exact w32_rng _ | exact q_lor_rng _ _) (by first | exact q_a_20 | exact w32_rng _ | exact q_lor_rng _ _) (by first | exact q_a_22 | exact w32_rng _ | exact q_lor_rng _ _)) ?_
  rintro ⟨x_26, σ_25⟩ _ hσ_25
  replace hσ_25 : INV σ_25 := hσ_25
  dsimp only
  exact wp_some ⟨rfl, hσ_25⟩
theorem step_24 {σ : SG} {xs : Nat → Int32} {L : Nat} {i_0 : Int} (hσ : INV σ) (h1 : 1 ≤ i_0) (h2 : i_0 + 5 < (L : Int)) (hL : L ≤ 3073) : wp_ (fS_24 σ xs L i_0) (fun r => r.1 = true ∧ INV r.2) := by
  unfold fS_24
  refine wp_ck (by rw [w32_of (by omega) (by omega)]; omega) ?_
  refine wp_lt (fun a_1 e_a_1 => ?_)
  have q_a_1 : (-2147483648) ≤ a_1 ∧ a_1 ≤ 2147483647 := by rw [e_a_1]; exact scr_b _ _
  refine wp_ck (by rw [w32_of (by omega) (by omega)]; omega) ?_
  refine wp_lt (fun a_3 e_a_3 => ?_)
  have q_a_3 : (-2147483648) ≤ a_3 ∧ a_3 ≤ 2147483647 := by rw [e_a_3]; exact scr_b _ _
  refine wp_ck (by rw [w32_of (by omega) (by omega)]; omega) ?_
  refine wp_lt (fun a_5 e_a_5 => ?_)
  have q_a_5 : (-2147483648) ≤ a_5 ∧ a_5 ≤ 2147483647 := by rw [e_a_5]; exact scr_b _ _
  refine wp_bd (iL_nearest hσ (by first | exact q_a_1 | exact w32_rng _ | exact q_lor_rng _ _) (by first | exact q_a_3 | exact w32_rng _ | exact q_lor_rng _ _) (by first | exact q_a_5 | exact w32_rng _ | exact q_lor_rng _ _)) ?_
  rintro ⟨x_9, σ_8⟩ _ hσ_8
  replace hσ_8 : INV σ_8 := hσ_8
  dsimp only
  refine wp_ck (by rw [w32_of (by omega) (by omega)]; omega) ?_
  refine wp_lt (fun a_10 e_a_10 => ?_)
  have q_a_10 : (-2147483648) ≤ a_10 ∧ a_10 ≤ 2147483647 := by rw [e_a_10]; exact scr_b _ _
  refine wp_ck (by rw [w32_of (by omega) (by omega)]; omega) ?_
  refine wp_lt (fun a_12 e_a_12 => ?_)
  have q_a_12 : (-2147483648) ≤ a_12 ∧ a_12 ≤ 2147483647 := by rw [e_a_12]; exact scr_b _ _
  refine wp_ck (by rw [w32_of (by omega) (by omega)]; omega) ?_
  refine wp_lt (fun a_14 e_a_14 => ?_)
  have q_a_14 : (-2147483648) ≤ a_14 ∧ a_14 ≤ 2147483647 := by rw [e_a_14]; exact scr_b _ _
  refine wp_bd (iR_nearest hσ_8 (by first | exact q_a_10 | exact w32_rng _ | exact q_lor_rng _ _) (by first | exact q_a_12 | exact w32_rng _ | exact q_lor_rng _ _) (by first | exact q_a_14 | exact w32_rng _ | exact q_lor_rng _ _)) ?_
  rintro ⟨x_18, σ_17⟩ _ hσ_17
  replace hσ_17 : INV σ_17 := hσ_17
  dsimp only
  exact wp_some ⟨rfl, hσ_17⟩
theorem step_25 {σ : SG} {xs : Nat → Int32} {L : Nat} {i_0 : Int} (hσ : INV σ) (h1 : 1 ≤ i_0) (h2 : i_0 + 5 < (L : Int)) (hL : L ≤ 3073) : wp_ (fS_25 σ xs L i_0) (fun r => r.1 = true ∧ INV r.2) := by
  unfold fS_25
  refine wp_ck (by rw [w32_of (by omega) (by omega)]; omega) ?_
  refine wp_lt (fun a_1 e_a_1 => ?_)
  have q_a_1 : (-2147483648) ≤ a_1 ∧ a_1 ≤ 2147483647 := by rw [e_a_1]; exact scr_b _ _
  refine wp_bd (iL_found hσ (by first | exact q_a_1 | exact w32_rng _ | exact q_lor_rng _ _)) ?_
  rintro ⟨x_5, σ_4⟩ _ hσ_4
  replace hσ_4 : INV σ_4 := hσ_4
  dsimp only
  refine wp_ck (by rw [w32_of (by omega) (by omega)]; omega) ?_
  refine wp_lt (fun a_6 e_a_6 => ?_)
  have q_a_6 : (-2147483648) ≤ a_6 ∧ a_6 ≤ 2147483647 := by rw [e_a_6]; exact scr_b _ _
  refine wp_bd (iR_found hσ_4 (by first | exact q_a_6 | exact w32_rng _ | exact q_lor_rng _ _)) ?_
  rintro ⟨x_10, σ_9⟩ _ hσ_9
  replace hσ_9 : INV σ_9 := hσ_9
  dsimp only
  exact wp_some ⟨rfl, hσ_9⟩
theorem step_26 {σ : SG} {xs : Nat → Int32} {L : Nat} {i_0 : Int} (hσ : INV σ) (h1 : 1 ≤ i_0) (h2 : i_0 + 5 < (L : Int)) (hL : L ≤ 3073) : wp_ (fS_26 σ xs L i_0) (fun r => r.1 = true ∧ INV r.2) := by
  unfold fS_26
  refine wp_ck (by rw [w32_of (by omega) (by omega)]; omega) ?_
  refine wp_lt (fun a_1 e_a_1 => ?_)
  have q_a_1 : (-2147483648) ≤ a_1 ∧ a_1 ≤ 2147483647 := by rw [e_a_1]; exact scr_b _ _
  refine wp_ck (by rw [w32_of (by omega) (by omega)]; omega) ?_
  refine wp_lt (fun a_3 e_a_3 => ?_)
  have q_a_3 : (-2147483648) ≤ a_3 ∧ a_3 ≤ 2147483647 := by rw [e_a_3]; exact scr_b _ _
  refine wp_bd (iL_plan hσ (by first | exact q_a_1 | exact w32_rng _ | exact q_lor_rng _ _) (by first | exact q_a_3 | exact w32_rng _ | exact q_lor_rng _ _)) ?_
  rintro ⟨x_7, σ_6⟩ _ hσ_6
  replace hσ_6 : INV σ_6 := hσ_6
  dsimp only
  refine wp_ck (by rw [w32_of (by omega) (by omega)]; omega) ?_
  refine wp_lt (fun a_8 e_a_8 => ?_)
  have q_a_8 : (-2147483648) ≤ a_8 ∧ a_8 ≤ 2147483647 := by rw [e_a_8]; exact scr_b _ _
  refine wp_ck (by rw [w32_of (by omega) (by omega)]; omega) ?_
  refine wp_lt (fun a_10 e_a_10 => ?_)
  have q_a_10 : (-2147483648) ≤ a_10 ∧ a_10 ≤ 2147483647 := by rw [e_a_10]; exact scr_b _ _
  refine wp_bd (iR_plan hσ_6 (by first | exact q_a_8 | exact w32_rng _ | exact q_lor_rng _ _) (by first | exact q_a_10 | exact w32_rng _ | exact q_lor_rng _ _)) ?_
  rintro ⟨x_14, σ_13⟩ _ hσ_13
  replace hσ_13 : INV σ_13 := hσ_13
  dsimp only
  exact wp_some ⟨rfl, hσ_13⟩
theorem step_27 {σ : SG} {xs : Nat → Int32} {L : Nat} {i_0 : Int} (hσ : INV σ) (h1 : 1 ≤ i_0) (h2 : i_0 + 5 < (L : Int)) (hL : L ≤ 3073) : wp_ (fS_27 σ xs L i_0) (fun r => r.1 = true ∧ INV r.2) := by
  unfold fS_27
  refine wp_ck (by rw [w32_of (by omega) (by omega)]; omega) ?_
  refine wp_lt (fun a_1 e_a_1 => ?_)
  have q_a_1 : (-2147483648) ≤ a_1 ∧ a_1 ≤ 2147483647 := by rw [e_a_1]; exact scr_b _ _
  refine wp_ck (by rw [w32_of (by omega) (by omega)]; omega) ?_
  refine wp_lt (fun a_3 e_a_3 => ?_)
  have q_a_3 : (-2147483648) ≤ a_3 ∧ a_3 ≤ 2147483647 := by rw [e_a_3]; exact scr_b _ _
  refine wp_ck (by rw [w32_of (by omega) (by omega)]; omega) ?_
  refine wp_lt (fun a_5 e_a_5 => ?_)
  have q_a_5 : (-2147483648) ≤ a_5 ∧ a_5 ≤ 2147483647 := by rw [e_a_5]; exact scr_b _ _
  refine wp_bd (iL_ordinate hσ (by first | exact q_a_1 | exact w32_rng _ | exact q_lor_rng _ _) (by first | exact q_a_3 | exact w32_rng _ | exact q_lor_rng _ _) (by first | exact q_a_5 | exact w32_rng _ | exact q_lor_rng _ _)) ?_
  rintro ⟨x_9, σ_8⟩ _ hσ_8
  replace hσ_8 : INV σ_8 := hσ_8
  dsimp only
  refine wp_ck (by rw [w32_of (by omega) (by omega)]; omega) ?_
  refine wp_lt (fun a_10 e_a_10 => ?_)
  have q_a_10 : (-2147483648) ≤ a_10 ∧ a_10 ≤ 2147483647 := by rw [e_a_10]; exact scr_b _ _
  refine wp_ck (by rw [w32_of (by omega) (by omega)]; omega) ?_
  refine wp_lt (fun a_12 e_a_12 => ?_)
  have q_a_12 : (-2147483648) ≤ a_12 ∧ a_12 ≤ 2147483647 := by rw [e_a_12]; exact scr_b _ _
  refine wp_ck (by rw [w32_of (by omega) (by omega)]; omega) ?_
  refine wp_lt (fun a_14 e_a_14 => ?_)
  have q_a_14 : (-2147483648) ≤ a_14 ∧ a_14 ≤ 2147483647 := by rw [e_a_14]; exact scr_b _ _
  refine wp_bd (iR_ordinate hσ_8 (by first | exact q_a_10 | exact w32_rng _ | exact q_lor_rng _ _) (by first | exact q_a_12 | exact w32_rng _ | exact q_lor_rng _ _) (by first | exact q_a_14 | exact w32_rng _ | exact q_lor_rng _ _)) ?_
  rintro ⟨x_18, σ_17⟩ _ hσ_17
  replace hσ_17 : INV σ_17 := hσ_17
  dsimp only
  exact wp_some ⟨rfl, hσ_17⟩
theorem step_28 {σ : SG} {xs : Nat → Int32} {L : Nat} {i_0 : Int} (hσ : INV σ) (h1 : 1 ≤ i_0) (h2 : i_0 + 5 < (L : Int)) (hL : L ≤ 3073) : wp_ (fS_28 σ xs L i_0) (fun r => r.1 = true ∧ INV r.2) := by
  unfold fS_28
  refine wp_ck (by rw [w32_of (by omega) (by omega)]; omega) ?_
  refine wp_lt (fun a_1 e_a_1 => ?_)
  have q_a_1 : (-2147483648) ≤ a_1 ∧ a_1 ≤ 2147483647 := by rw [e_a_1]; exact scr_b _ _
  refine wp_ck (by rw [w32_of (by omega) (by omega)]; omega) ?_
  refine wp_lt (fun a_3 e_a_3 => ?_)
  have q_a_3 : (-2147483648) ≤ a_3 ∧ a_3 ≤ 2147483647 := by rw [e_a_3]; exact scr_b _ _
  refine wp_bd (iL_count hσ (by first | exact q_a_1 | exact w32_rng _ | exact q_lor_rng _ _) (by first | exact q_a_3 | exact w32_rng _ | exact q_lor_rng _ _)) ?_
  rintro ⟨x_7, σ_6⟩ _ hσ_6
  replace hσ_6 : INV σ_6 := hσ_6
  dsimp only
  refine wp_ck (by rw [w32_of (by omega) (by omega)]; omega) ?_
  refine wp_lt (fun a_8 e_a_8 => ?_)
  have q_a_8 : (-2147483648) ≤ a_8 ∧ a_8 ≤ 2147483647 := by rw [e_a_8]; exact scr_b _ _
  refine wp_ck (by rw [w32_of (by omega) (by omega)]; omega) ?_
  refine wp_lt (fun a_10 e_a_10 => ?_)
  have q_a_10 : (-2147483648) ≤ a_10 ∧ a_10 ≤ 2147483647 := by rw [e_a_10]; exact scr_b _ _
  refine wp_bd (iR_count hσ_6 (by first | exact q_a_8 | exact w32_rng _ | exact q_lor_rng _ _) (by first | exact q_a_10 | exact w32_rng _ | exact q_lor_rng _ _)) ?_
  rintro ⟨x_14, σ_13⟩ _ hσ_13
  replace hσ_13 : INV σ_13 := hσ_13
  dsimp only
  exact wp_some ⟨rfl, hσ_13⟩
theorem step_30 {σ : SG} {xs : Nat → Int32} {L : Nat} {i_0 : Int} (hσ : INV σ) (h1 : 1 ≤ i_0) (h2 : i_0 + 5 < (L : Int)) (hL : L ≤ 3073) : wp_ (fS_30 σ xs L i_0) (fun r => r.1 = true ∧ INV r.2) := by
  unfold fS_30
  refine wp_ck (by rw [w32_of (by omega) (by omega)]; omega) ?_
  refine wp_lt (fun a_1 e_a_1 => ?_)
  have q_a_1 : (-2147483648) ≤ a_1 ∧ a_1 ≤ 2147483647 := by rw [e_a_1]; exact scr_b _ _
  refine wp_ck (by rw [w32_of (by omega) (by omega)]; omega) ?_
  refine wp_lt (fun a_3 e_a_3 => ?_)
  have q_a_3 : (-2147483648) ≤ a_3 ∧ a_3 ≤ 2147483647 := by rw [e_a_3]; exact scr_b _ _
  refine wp_ck (by rw [w32_of (by omega) (by omega)]; omega) ?_
  refine wp_lt (fun a_5 e_a_5 => ?_)
  have q_a_5 : (-2147483648) ≤ a_5 ∧ a_5 ≤ 2147483647 := by rw [e_a_5]; exact scr_b _ _
  refine wp_bd (iL_side hσ (by first | exact q_a_1 | exact w32_rng _ | exact q_lor_rng _ _) (by first | exact q_a_3 | exact w32_rng _ | exact q_lor_rng _ _) (by first | exact q_a_5 | exact w32_rng _ | exact q_lor_rng _ _)) ?_
  rintro ⟨x_9, σ_8⟩ _ hσ_8
  replace hσ_8 : INV σ_8 := hσ_8
  dsimp only
  refine wp_ck (by rw [w32_of (by omega) (by omega)]; omega) ?_
  refine wp_lt (fun a_10 e_a_10 => ?_)
  have q_a_10 : (-2147483648) ≤ a_10 ∧ a_10 ≤ 2147483647 := by rw [e_a_10]; exact scr_b _ _
  refine wp_ck (by rw [w32_of (by omega) (by omega)]; omega) ?_
  refine wp_lt (fun a_12 e_a_12 => ?_)
  have q_a_12 : (-2147483648) ≤ a_12 ∧ a_12 ≤ 2147483647 := by rw [e_a_12]; exact scr_b _ _
  refine wp_ck (by rw [w32_of (by omega) (by omega)]; omega) ?_
  refine wp_lt (fun a_14 e_a_14 => ?_)
  have q_a_14 : (-2147483648) ≤ a_14 ∧ a_14 ≤ 2147483647 := by rw [e_a_14]; exact scr_b _ _
  refine wp_bd (iR_side hσ_8 (by first | exact q_a_10 | exact w32_rng _ | exact q_lor_rng _ _) (by first | exact q_a_12 | exact w32_rng _ | exact q_lor_rng _ _) (by first | exact q_a_14 | exact w32_rng _ | exact q_lor_rng _ _)) ?_
  rintro ⟨x_18, σ_17⟩ _ hσ_17
  replace hσ_17 : INV σ_17 := hσ_17
  dsimp only
  exact wp_some ⟨rfl, hσ_17⟩
theorem step_31 {σ : SG} {xs : Nat → Int32} {L : Nat} {i_0 : Int} (hσ : INV σ) (h1 : 1 ≤ i_0) (h2 : i_0 + 5 < (L : Int)) (hL : L ≤ 3073) : wp_ (fS_31 σ xs L i_0) (fun r => r.1 = true ∧ INV r.2) := by
  unfold fS_31
  refine wp_ck (by rw [w32_of (by omega) (by omega)]; omega) ?_
  refine wp_lt (fun a_1 e_a_1 => ?_)
  have q_a_1 : (-2147483648) ≤ a_1 ∧ a_1 ≤ 2147483647 := by rw [e_a_1]; exact scr_b _ _
  refine wp_ck (by rw [w32_of (by omega) (by omega)]; omega) ?_
  refine wp_lt (fun a_3 e_a_3 => ?_)
  have q_a_3 : (-2147483648) ≤ a_3 ∧ a_3 ≤ 2147483647 := by rw [e_a_3]; exact scr_b _ _
  refine wp_ck (by rw [w32_of (by omega) (by omega)]; omega) ?_
  refine wp_lt (fun a_5 e_a_5 => ?_)
  have q_a_5 : (-2147483648) ≤ a_5 ∧ a_5 ≤ 2147483647 := by rw [e_a_5]; exact scr_b _ _
  refine wp_ck (by rw [w32_of (by omega) (by omega)]; omega) ?_
  refine wp_lt (fun a_7 e_a_7 => ?_)
  have q_a_7 : (-2147483648) ≤ a_7 ∧ a_7 ≤ 2147483647 := by rw [e_a_7]; exact scr_b _ _
  refine wp_bd (iL_circle hσ (by first | exact q_a_1 | exact w32_rng _ | exact q_lor_rng _ _) (by first | exact q_a_3 | exact w32_rng _ | exact q_lor_rng _ _) (by first | exact q_a_5 | exact w32_rng _ | exact q_lor_rng _ _) (by first | exact q_a_7 | exact w32_rng _ | exact q_lor_rng _ _)) ?_
  rintro ⟨x_11, σ_10⟩ _ hσ_10
  replace hσ_10 : INV σ_10 := hσ_10
  dsimp only
  refine wp_ck (by rw [w32_of (by omega) (by omega)]; omega) ?_
  refine wp_lt (fun a_12 e_a_12 => ?_)
  have q_a_12 : (-2147483648) ≤ a_12 ∧ a_12 ≤ 2147483647 := by rw [e_a_12]; exact scr_b _ _
  refine wp_ck (by rw [w32_of (by omega) (by omega)]; omega) ?_
  refine wp_lt (fun a_14 e_a_14 => ?_)
  have q_a_14 : (-2147483648) ≤ a_14 ∧ a_14 ≤ 2147483647 := by rw [e_a_14]; exact scr_b _ _
  refine wp_ck (by rw [w32_of (by omega) (by omega)]; omega) ?_
  refine wp_lt (fun a_16 e_a_16 => ?_)
  have q_a_16 : (-2147483648) ≤ a_16 ∧ a_16 ≤ 2147483647 := by rw [e_a_16]; exact scr_b _ _
  refine wp_ck (by rw [w32_of (by omega) (by omega)]; omega) ?_
  refine wp_lt (fun a_18 e_a_18 => ?_)
  have q_a_18 : (-2147483648) ≤ a_18 ∧ a_18 ≤ 2147483647 := by rw [e_a_18]; exact scr_b _ _
  refine wp_bd (iR_circle hσ_10 (by first | exact q_a_12 | exact w32_rng _ | exact q_lor_rng _ _) (by first | exact q_a_14 | exact w32_rng _ | exact q_lor_rng _ _) (by first | exact q_a_16 | exact w32_rng _ | exact q_lor_rng _ _) (by first | exact q_a_18 | exact w32_rng _ | exact q_lor_rng _ _)) ?_
  rintro ⟨x_22, σ_21⟩ _ hσ_21
  replace hσ_21 : INV σ_21 := hσ_21
  dsimp only
  exact wp_some ⟨rfl, hσ_21⟩
end STEP
