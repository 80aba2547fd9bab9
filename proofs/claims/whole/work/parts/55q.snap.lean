section SNQ
abbrev RLs : List Nat := [kR_corner, kR_corners, kR_outArea, kR_outFrom, kR_outMany, kR_outs]
/-- the rings told: each has its corners behind those of the one ahead -/
def OC (τ : SG) : Prop := ∀ s, 0 ≤ s → s < τ kR_outs 0 → 0 ≤ τ kR_outFrom s ∧ 0 ≤ τ kR_outMany s ∧ τ kR_outFrom s + τ kR_outMany s ≤ τ kR_corners 0
theorem irm_in {x n : Int} (n0 : 0 < n) (n1 : n ≤ 100000) (x0 : 0 ≤ x) (x1 : x ≤ 1000000) : 0 ≤ q_irm x n ∧ q_irm x n < n := by
  have hw : w32 n = n := w32_of (by omega) (by omega)
  have hx : w32 x = x := w32_of (by omega) (by omega)
  obtain ⟨a, b, c⟩ := q_irm_bd x n (by omega)
  have := c (by omega)
  omega
theorem v_ring {τ : SG} {from_ : Int} (hτ : II τ) (f0 : 0 ≤ from_) (f1 : from_ < τ kR_wayMany 0) (ho : τ kR_outs 0 ≤ 8191) (hc : τ kR_corners 0 + (τ kR_wayMany 0 - from_) ≤ 32000) (oc : OC τ) : wp_ (fR_ring τ from_) (fun υ => II υ ∧ FR [kR_corner, kR_corners, kR_outArea, kR_outFrom, kR_outMany, kR_outs] τ υ ∧ υ kR_outs 0 = τ kR_outs 0 + 1 ∧ τ kR_corners 0 ≤ υ kR_corners 0 ∧ υ kR_corners 0 ≤ τ kR_corners 0 + (τ kR_wayMany 0 - from_) ∧ OC υ) := by
  unfold fR_ring
  have bw := ii_kR_wayMany hτ 0
  have bo := ii_kR_outs hτ 0
  have bc := ii_kR_corners hτ 0
  have wv : ∀ j, 0 ≤ τ kR_way j ∧ τ kR_way j ≤ 8191 := ii_kR_way hτ
  generalize hM : τ kR_wayMany 0 = M at *
  generalize hO : τ kR_outs 0 = O at *
  generalize hC : τ kR_corners 0 = C at *
  refine wp_bd (P := fun s => from_ ≤ s.1 ∧ s.1 < M) ?_ ?_
  · refine wp_whl (fun s => (from_ ≤ s.1 ∧ s.1 < M) ∧ from_ ≤ s.2 ∧ s.2 ≤ M) (fun s => (M - s.2).toNat) ⟨⟨Int.le_refl _, f1⟩, Int.le_refl _, by dsimp only; omega⟩ ?_
    rintro ⟨first, k⟩ ⟨⟨a0, a1⟩, k0, k1⟩
    dsimp only at a0 a1 k0 k1 ⊢
    rw [w32_of (x := k) (by omega) (by omega), w32_of (x := M) (by omega) (by omega), w32_of (x := first) (by omega) (by omega)]
    refine wp_if (fun g => ?_) (fun g => wp_ir ⟨a0, a1⟩)
    refine wp_bd (P := fun v => from_ ≤ v ∧ v < M) ?_ (fun v _ hv => wp_il ⟨⟨hv, by dsimp only; omega, by dsimp only; omega⟩, by dsimp only; omega⟩)
    refine wp_rd (by omega) (by omega) (wp_rd (by omega) (by omega) ?_)
    exact wp_if (fun _ => wp_some ⟨k0, g⟩) (fun _ => wp_some ⟨a0, a1⟩)
  rintro ⟨first, k⟩ - ⟨a0, a1⟩
  dsimp only at a0 a1 ⊢
  rw [w32_of (x := O) (by omega) (by omega)]
  refine wp_waI hτ b_kR_outFrom (by omega) (by omega) (by omega) (fun σ1 h1 e1 => ?_)
  have r1 : FR RLs τ σ1 := FR_le (FR_sg e1) (by decide)
  have g1 : σ1 kR_outFrom O = C := sg_val e1
  have n1 : σ1 kR_corners 0 = C := by rw [e1, sg_nc (by decide)]; exact hC
  have p1 : σ1 kR_outs 0 = O := by rw [e1, sg_nc (by decide)]; exact hO
  generalize hN : M - from_ = N at *
  rw [w32_of (x := N) (by omega) (by omega)]
  refine wp_bd (P := fun s => II s.2.2 ∧ FR [kR_corner, kR_corners] σ1 s.2.2 ∧ C ≤ s.2.2 kR_corners 0 ∧ s.2.2 kR_corners 0 ≤ C + N) ?_ ?_
  · refine wp_whl (fun s => 0 ≤ s.2.1 ∧ s.2.1 ≤ N ∧ II s.2.2 ∧ FR [kR_corner, kR_corners] σ1 s.2.2 ∧ C ≤ s.2.2 kR_corners 0 ∧ s.2.2 kR_corners 0 ≤ C + s.2.1) (fun s => (N - s.2.1).toNat) ⟨Int.le_refl 0, by dsimp only; omega, h1, FR_refl _ _, by dsimp only; omega, by dsimp only; omega⟩ ?_
    rintro ⟨area, k, υ⟩ ⟨k0, k1, hυ, fυ, c0, c1⟩
    dsimp only at k0 k1 hυ fυ c0 c1 ⊢
    have wu : ∀ j, 0 ≤ υ kR_way j ∧ υ kR_way j ≤ 8191 := ii_kR_way hυ
    rw [w32_of (x := k) (by omega) (by omega)]
    refine wp_if (fun g => ?_) (fun g => wp_ir ⟨hυ, fυ, c0, by dsimp only; omega⟩)
    refine wp_ck (by omega) ?_
    have i1 := irm_in (n := N) (x := first - from_ + k) (by omega) (by omega) (by omega) (by omega)
    refine wp_lt (fun x ex => ?_)
    have bx : from_ ≤ x ∧ x < M := by omega
    refine wp_ck (by omega) ?_
    have i2 := irm_in (n := N) (x := x - from_ + N - 1) (by omega) (by omega) (by omega) (by omega)
    refine wp_lt (fun y ey => ?_)
    have by_ : from_ ≤ y ∧ y < M := by omega
    refine wp_ck (by omega) ?_
    have i3 := irm_in (n := N) (x := x - from_ + 1) (by omega) (by omega) (by omega) (by omega)
    refine wp_lt (fun z ez => ?_)
    have bz_ : from_ ≤ z ∧ z < M := by omega
    have w1 := wu x
    have w2 := wu y
    have w3 := wu z
    rw [w32_of (x := x) (by omega) (by omega), w32_of (x := y) (by omega) (by omega), w32_of (x := z) (by omega) (by omega)]
    refine wp_rd (by omega) (by omega) ?_
    rw [w32_of (x := υ kR_way x) (by omega) (by omega)]
    refine wp_rd (by omega) (by omega) (wp_rd (by omega) (by omega) ?_)
    rw [w32_of (x := υ kR_way x) (by omega) (by omega)]
    refine wp_rd (by omega) (by omega) (wp_rd (by omega) (by omega) ?_)
    rw [w32_of (x := υ kR_way z) (by omega) (by omega)]
    refine wp_rd (by omega) (by omega) (wp_rd (by omega) (by omega) ?_)
    rw [w32_of (x := υ kR_way z) (by omega) (by omega)]
    refine wp_rd (by omega) (by omega) (wp_rd (by omega) (by omega) (wp_rd (by omega) (by omega) (wp_rd (by omega) (by omega) ?_)))
    refine wp_bd (s_R_isStraight hυ w2 w1 w3) ?_
    rintro b - -
    refine wp_if (fun _ => wp_il ⟨⟨by dsimp only; omega, by dsimp only; omega, hυ, fυ, c0, by dsimp only; omega⟩, by dsimp only; omega⟩) (fun _ => ?_)
    refine wp_rd (by omega) (by omega) ?_
    have bc' := ii_kR_corners hυ 0
    generalize hD : υ kR_corners 0 = D at *
    rw [w32_of (x := D) (by omega) (by omega)]
    refine wp_waI hυ b_kR_corner (by omega) (by omega) w1 (fun σ2 h2 e2 => ?_)
    have d2 : σ2 kR_corners 0 = D := by rw [e2, sg_nc (by decide)]; exact hD
    rw [d2]
    refine wp_wfI h2 b_kR_corners (by omega) (fun σ3 h3 e3 => ?_)
    have d3 : σ3 kR_corners 0 = D + 1 := sg_val e3
    exact wp_il ⟨⟨by dsimp only; omega, by dsimp only; omega, h3, FR_tr (FR_tr fυ (FR_sg e2) (by decide) (by decide) : FR [kR_corner, kR_corners] σ1 σ2) (FR_sg e3) (by decide) (by decide), by dsimp only; omega, by dsimp only; omega⟩, by dsimp only; omega⟩
  rintro ⟨area, k, υ⟩ - ⟨hυ, fυ, c0, c1⟩
  dsimp only at hυ fυ c0 c1 ⊢
  have rυ : FR RLs τ υ := FR_tr r1 fυ (by decide) (by decide)
  have o2 : υ kR_outs 0 = O := by rw [FR_at fυ (by decide) 0]; exact p1
  have g2 : υ kR_outFrom O = C := by rw [FR_at fυ (by decide) O]; exact g1
  rw [o2, w32_of (x := O) (by omega) (by omega)]
  refine wp_rd (by omega) (by omega) ?_
  rw [g2]
  refine wp_waI hυ b_kR_outMany (by omega) (by omega) (by omega) (fun σ4 h4 e4 => ?_)
  have o4 : σ4 kR_outs 0 = O := by rw [e4, sg_nc (by decide)]; exact o2
  rw [o4, w32_of (x := O) (by omega) (by omega)]
  refine wp_waN h4 (by decide +kernel) (by omega) (by omega) (fun σ5 h5 e5 => ?_)
  have o5 : σ5 kR_outs 0 = O := by rw [e5, sg_nc (by decide)]; exact o4
  rw [o5]
  refine wp_wfI h5 b_kR_outs (by omega) (fun σ6 h6 e6 => wp_some ?_)
  have o6 : σ6 kR_outs 0 = O + 1 := sg_val e6
  have c6 : σ6 kR_corners 0 = υ kR_corners 0 := by rw [e6, sg_nc (by decide), e5, sg_nc (by decide), e4, sg_nc (by decide)]
  refine ⟨h6, FR_tr (FR_tr (FR_tr rυ (FR_sg e4) (by decide) (by decide) : FR RLs τ σ4) (FR_sg e5) (by decide) (by decide) : FR RLs τ σ5) (FR_sg e6) (by decide) (by decide), o6, by omega, by omega, fun s s0 s1 => ?_⟩
  rw [o6] at s1
  have u1 : σ6 kR_outFrom s = υ kR_outFrom s := by rw [e6, sg_nc (by decide), e5, sg_nc (by decide), e4, sg_nc (by decide)]
  have u2 : σ6 kR_outMany s = if s = O then υ kR_corners 0 - C else υ kR_outMany s := by
    rw [e6, sg_nc (by decide), e5, sg_nc (by decide), e4]
    by_cases q : s = O
    · rw [if_pos q, q, sg_at]
    · rw [if_neg q, sg_ni q]
  rw [u1, u2, c6]
  by_cases q : s = O
  · rw [if_pos q, q, g2]; omega
  · rw [if_neg q]
    have z1 : υ kR_outFrom s = τ kR_outFrom s := by rw [FR_at fυ (by decide) s, e1, sg_ni q]
    have z2 : υ kR_outMany s = τ kR_outMany s := FR_at (FR_tr (FR_sg e1) fυ (by decide) (by decide) : FR [kR_outFrom, kR_corner, kR_corners] τ υ) (by decide) s
    have := oc s s0 (by omega)
    rw [z1, z2]; omega
end SNQ
