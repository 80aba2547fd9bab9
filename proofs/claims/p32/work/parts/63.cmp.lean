section CMP
theorem scr_c (xs : Nat → Int32) (i : Int) : (-2147483648) ≤ scr xs i ∧ scr xs i ≤ 2147483647 := scr_b xs i
theorem step_29 {σ : SG} {xs : Nat → Int32} {L : Nat} {i_0 : Int} (hσ : INV σ) (hp : PSq σ) (h1 : 1 ≤ i_0) (h2 : i_0 + 5 < (L : Int)) (hL : L ≤ 3073) : wp_ (fS_29 σ xs L i_0) (fun r => r.1 = true ∧ INV r.2 ∧ PSq r.2) := by
  have r64 : ∀ a b : Int, (-9223372036854775808) ≤ q_lor a b ∧ q_lor a b ≤ 9223372036854775807 := fun a b => q_lor_rng a b
  unfold fS_29
  refine wp_ck (by rw [w32_of (by omega) (by omega)]; omega) (wp_lt (fun a1 e1 => ?_))
  refine wp_ck (by rw [w32_of (by omega) (by omega)]; omega) (wp_lt (fun a2 e2 => ?_))
  refine wp_ck (by rw [w32_of (by omega) (by omega)]; omega) (wp_lt (fun a3 e3 => ?_))
  refine wp_ck (by rw [w32_of (by omega) (by omega)]; omega) (wp_lt (fun a4 e4 => ?_))
  refine wp_ck (by rw [w32_of (by omega) (by omega)]; omega) (wp_lt (fun a5 e5 => ?_))
  refine wp_bd (wp_and (iL_point hσ (by rw [e1]; exact scr_b _ _) (r64 _ _) (r64 _ _)) eL_pt) ?_
  rintro ⟨x, τ⟩ _ ⟨hτ, l0, l1⟩
  replace hτ : INV τ := hτ
  dsimp only at l0 l1 ⊢
  refine wp_ck (by rw [w32_of (by omega) (by omega)]; omega) (wp_lt (fun b1 f1 => ?_))
  refine wp_ck (by rw [w32_of (by omega) (by omega)]; omega) (wp_lt (fun b2 f2 => ?_))
  refine wp_ck (by rw [w32_of (by omega) (by omega)]; omega) (wp_lt (fun b3 f3 => ?_))
  refine wp_ck (by rw [w32_of (by omega) (by omega)]; omega) (wp_lt (fun b4 f4 => ?_))
  refine wp_ck (by rw [w32_of (by omega) (by omega)]; omega) (wp_lt (fun b5 f5 => ?_))
  obtain rfl : b1 = a1 := f1.trans e1.symm
  obtain rfl : b2 = a2 := f2.trans e2.symm
  obtain rfl : b3 = a3 := f3.trans e3.symm
  obtain rfl : b4 = a4 := f4.trans e4.symm
  obtain rfl : b5 = a5 := f5.trans e5.symm
  refine wp_bd (wp_and (iR_point hτ (by rw [f1]; exact scr_b _ _) (r64 _ _) (r64 _ _)) (eR_pt hτ.1)) ?_
  rintro υ _ ⟨hυ, r0, r1⟩
  exact wp_some ⟨rfl, hυ, PQ_pt hp l0 l1 r0 r1⟩
theorem step_cmp {σ : SG} {xs : Nat → Int32} {L : Nat} {i_0 : Int} (hσ : INV σ) (hp : PSq σ) (h1 : 1 ≤ i_0) (h2 : i_0 + 5 < (L : Int)) (hL : L ≤ 3073) : wp_ (fS_30 σ xs L i_0) (fun r => r.1 = true ∧ INV r.2 ∧ PSq r.2) := by
  unfold fS_30
  refine wp_ck (by rw [w32_of (by omega) (by omega)]; omega) (wp_lt (fun a1 e1 => ?_))
  refine wp_ck (by rw [w32_of (by omega) (by omega)]; omega) (wp_lt (fun a2 e2 => ?_))
  refine wp_ck (by rw [w32_of (by omega) (by omega)]; omega) (wp_lt (fun a3 e3 => ?_))
  have q1 : (-2147483648) ≤ a1 ∧ a1 ≤ 2147483647 := by rw [e1]; exact scr_b _ _
  have q2 : (-2147483648) ≤ a2 ∧ a2 ≤ 2147483647 := by rw [e2]; exact scr_b _ _
  have q3 : (-2147483648) ≤ a3 ∧ a3 ≤ 2147483647 := by rw [e3]; exact scr_b _ _
  refine wp_bd (wp_and (jL_side (INK_i hσ) q1 q2 q3) (eL_side hσ.1 q1 q2 q3)) ?_
  rintro ⟨x, τ⟩ _ ⟨hτ, n1, n2⟩
  replace hτ : INK σ τ := hτ
  dsimp only at n1 n2 ⊢
  refine wp_ck (by rw [w32_of (by omega) (by omega)]; omega) (wp_lt (fun b1 f1 => ?_))
  refine wp_ck (by rw [w32_of (by omega) (by omega)]; omega) (wp_lt (fun b2 f2 => ?_))
  refine wp_ck (by rw [w32_of (by omega) (by omega)]; omega) (wp_lt (fun b3 f3 => ?_))
  obtain rfl : b1 = a1 := f1.trans e1.symm
  obtain rfl : b2 = a2 := f2.trans e2.symm
  obtain rfl : b3 = a3 := f3.trans e3.symm
  refine wp_bd (wp_and (jR_side hτ q1 q2 q3) (wp_and (eR_side hτ.1 q1 q2 q3) (s_R_side hτ.1 q1 q2 q3))) ?_
  rintro ⟨y, υ⟩ _ ⟨hυ, ⟨m1, m2⟩, -, -, fr⟩
  replace hυ : INK σ υ := hυ
  dsimp only at m1 m2 fr ⊢
  have hP : PSq υ := PQ_k hp hυ.2.2.2.2
  by_cases ho : okP b1 ∧ okP b2 ∧ okP b3
  · obtain ⟨x0, xv⟩ := n2 ho
    obtain ⟨t0, yv⟩ := m2 ho
    have hs : sdV (τ kR_signX) (τ kR_signY) b1 b2 b3 = sdV (σ kI_x) (σ kI_y) b1 b2 b3 := by
      rw [hτ.2.2.2.2.2.2.1, hτ.2.2.2.2.2.2.2]
      unfold sdV
      rw [(hp b1 ho.1.1 ho.1.2).1, (hp b1 ho.1.1 ho.1.2).2, (hp b2 ho.2.1.1 ho.2.1.2).1, (hp b2 ho.2.1.1 ho.2.1.2).2, (hp b3 ho.2.2.1 ho.2.2.2).1, (hp b3 ho.2.2.1 ho.2.2.2).2]
    rw [hs] at yv
    have hk : υ kLo 0 = y := by rw [FR_at fr (by decide), xv, yv]
    have yb : -1 ≤ y ∧ y ≤ 1 := by rw [yv]; exact sgn_b _
    subst x0
    refine wp_if (fun c => absurd (by show w32 (υ kR_thrown 0) = w32 0; rw [t0]) c) (fun _ => wp_if (fun _ => wp_rd (by decide) (by decide) (wp_if (fun c => absurd ?_ c) (fun _ => wp_some ⟨rfl, INK_v hυ, hP⟩))) (fun c => absurd (by decide) c))
    rw [hk, w32_of (x := y) (by omega) (by omega)]
  · have x1 := n1 ho
    have t1 := m1 ho
    subst x1
    exact wp_if (fun c => absurd (by show w32 (υ kR_thrown 0) = w32 1; rw [t1]) c) (fun _ => wp_if (fun c => absurd c (by decide)) (fun _ => wp_some ⟨rfl, INK_v hυ, hP⟩))
end CMP
