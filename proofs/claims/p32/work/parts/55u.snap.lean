section SNU
theorem v_whereIn {τ : SG} {out hot : Int} (hτ : II τ) (oc : OC τ) (o0 : 0 ≤ out) (o1 : out < τ kR_outs 0) (h0 : 0 ≤ hot) (h1 : hot ≤ 8191) : wp_ (fR_whereIn τ out hot) (fun v => 0 ≤ v ∧ v ≤ 2) := by
  unfold fR_whereIn
  have bo := ii_kR_outs hτ 0
  have bc := ii_kR_corners hτ 0
  obtain ⟨r1, r2, r3, -⟩ := oc out o0 o1
  have cv : ∀ j, 0 ≤ τ kR_corner j ∧ τ kR_corner j ≤ 8191 := ii_kR_corner hτ
  rw [w32_of (x := hot) (by omega) (by omega), w32_of (x := out) (by omega) (by omega)]
  refine wp_rd h0 (by omega) (wp_rd h0 (by omega) ?_)
  generalize hN : τ kR_outMany out = N at *
  generalize hF : τ kR_outFrom out = F at *
  refine wp_bx (P := fun _ => True) ?_ (fun s _ => wp_some (by split <;> omega))
  by_cases small : N ≤ 33000
  · refine wp_whl (fun s => 0 ≤ s.2 ∧ s.2 ≤ N) (fun s => (N - s.2).toNat) ⟨Int.le_refl 0, r2⟩ ?_
    rintro ⟨within, k⟩ ⟨k0, k1⟩
    dsimp only at k0 k1 ⊢
    refine wp_rd o0 (by omega) ?_
    rw [hN, w32_of (x := k) (by omega) (by omega), w32_of (x := N) (by omega) (by omega)]
    refine wp_if (fun g => ?_) (fun g => wp_ir (x_inl trivial))
    refine wp_rd o0 (by omega) ?_
    rw [hF, w32_of (x := F + k) (by omega) (by omega)]
    refine wp_rd (by omega) (by omega) (wp_rd o0 (by omega) (wp_rd o0 (by omega) ?_))
    rw [hF, hN, w32_of (x := N) (by omega) (by omega)]
    refine wp_ck (by omega) ?_
    have ir := irm_in (n := N) (x := k + 1) (by omega) (by omega) (by omega) (by omega)
    rw [w32_of (x := F + q_irm (k + 1) N) (by omega) (by omega)]
    refine wp_rd (by omega) (by omega) ?_
    have ca := cv (F + k)
    have cb := cv (F + q_irm (k + 1) N)
    generalize τ kR_corner (F + k) = a at *
    generalize τ kR_corner (F + q_irm (k + 1) N) = b at *
    rw [w32_of (x := a) (by omega) (by omega), w32_of (x := b) (by omega) (by omega)]
    refine wp_bd (P := fun v => 0 ≤ v ∧ v ≤ 8191) ?_ ?_
    · refine wp_rd (by omega) (by omega) (wp_rd (by omega) (by omega) ?_)
      refine wp_if (fun _ => wp_some ca) (fun _ => ?_)
      refine wp_rd (by omega) (by omega) (wp_rd (by omega) (by omega) ?_)
      refine wp_if (fun _ => ?_) (fun _ => wp_some cb)
      exact wp_if (fun _ => wp_some ca) (fun _ => wp_some cb)
    rintro lo - bl
    rw [w32_of (x := lo) (by omega) (by omega)]
    have bh : 0 ≤ (if lo = a then b else a) ∧ (if lo = a then b else a) ≤ 8191 := by split <;> omega
    generalize (if lo = a then b else a) = hi at *
    rw [w32_of (x := hi) (by omega) (by omega)]
    refine wp_rd (by omega) (by omega) (wp_rd (by omega) (by omega) (wp_rd (by omega) (by omega) (wp_rd (by omega) (by omega) ?_)))
    refine wp_bd (P := fun _ => True) ?_ ?_
    · refine wp_rd (by omega) (by omega) (wp_rd (by omega) (by omega) ?_)
      exact wp_if (fun _ => wp_some trivial) (fun _ => wp_some trivial)
    rintro lev - -
    refine wp_bd (P := fun _ => True) ?_ ?_
    · refine wp_if (fun _ => ?_) (fun _ => wp_some trivial)
      refine wp_if (fun _ => ?_) (fun _ => ?_)
      · refine wp_rd (by omega) (by omega) ?_
        refine wp_if (fun _ => ?_) (fun _ => wp_some trivial)
        refine wp_rd (by omega) (by omega) (wp_rd (by omega) (by omega) ?_)
        exact wp_if (fun _ => wp_some trivial) (fun _ => wp_some trivial)
      · refine wp_rd (by omega) (by omega) (wp_rd (by omega) (by omega) ?_)
        exact wp_if (fun _ => wp_some trivial) (fun _ => wp_some trivial)
    rintro on - -
    refine wp_if (fun _ => wp_ir (x_inr (by omega))) (fun _ => ?_)
    refine wp_bd (P := fun _ => True) ?_ (fun w _ _ => wp_il ⟨⟨by dsimp only; omega, by dsimp only; omega⟩, by dsimp only; omega⟩)
    refine wp_if (fun _ => ?_) (fun _ => wp_some trivial)
    refine wp_rd (by omega) (by omega) ?_
    refine wp_if (fun _ => ?_) (fun _ => wp_some trivial)
    refine wp_rd (by omega) (by omega) ?_
    exact wp_if (fun _ => wp_some trivial) (fun _ => wp_some trivial)
  · exfalso; omega
theorem v_holds {τ : SG} {s h : Int} (hτ : II τ) (oc : OC τ) (s0 : 0 ≤ s) (s1 : s < τ kR_outs 0) (h0 : 0 ≤ h) (h1 : h < τ kR_outs 0) (hc : τ kR_corners 0 ≤ 16384) : wp_ (fR_holds τ s h) (fun _ => True) := by
  unfold fR_holds
  have bo := ii_kR_outs hτ 0
  obtain ⟨r1, r2, r3, -⟩ := oc h h0 h1
  have cv : ∀ j, 0 ≤ τ kR_corner j ∧ τ kR_corner j ≤ 8191 := ii_kR_corner hτ
  rw [w32_of (x := h) (by omega) (by omega)]
  generalize hN : τ kR_outMany h = N at *
  generalize hF : τ kR_outFrom h = F at *
  refine wp_bx (P := fun _ => True) ?_ (fun s _ => wp_some trivial)
  refine wp_whl (fun k => 0 ≤ k ∧ k ≤ N) (fun k => (N - k).toNat) ⟨Int.le_refl 0, r2⟩ ?_
  rintro k ⟨k0, k1⟩
  refine wp_rd h0 (by omega) ?_
  rw [hN, w32_of (x := k) (by omega) (by omega), w32_of (x := N) (by omega) (by omega)]
  refine wp_if (fun g => ?_) (fun g => wp_ir (x_inl trivial))
  refine wp_rd h0 (by omega) ?_
  rw [hF, w32_of (x := F + k) (by omega) (by omega)]
  refine wp_rd (by omega) (by omega) ?_
  have ca := cv (F + k)
  refine wp_bd (v_whereIn hτ oc s0 s1 ca.1 ca.2) ?_
  rintro v - bv
  exact wp_if (fun _ => wp_ir (x_inr trivial)) (fun _ => wp_il ⟨⟨by omega, by omega⟩, by omega⟩)
theorem v_giveHoles {σ : SG} (hσ : II σ) (oc : OC σ) (ho : σ kR_outs 0 ≤ 8192) (hc : σ kR_corners 0 ≤ 16384) : wp_ (fR_giveHoles σ) (fun τ => II τ ∧ FR [kR_outShell] σ τ) := by
  unfold fR_giveHoles
  have bo := ii_kR_outs hσ 0
  have fo : ∀ {τ : SG}, FR [kR_outShell] σ τ → OC τ ∧ τ kR_outs 0 = σ kR_outs 0 ∧ τ kR_corners 0 = σ kR_corners 0 := by
    intro τ f
    refine ⟨?_, FR_at f (by decide) 0, FR_at f (by decide) 0⟩
    unfold OC at *
    simp only [FR_at f (c := kR_outs) (by decide), FR_at f (c := kR_outFrom) (by decide), FR_at f (c := kR_outMany) (by decide), FR_at f (c := kR_outArea) (by decide), FR_at f (c := kR_corners) (by decide)]
    exact oc
  refine wp_bd (P := fun s => II s.2 ∧ FR [kR_outShell] σ s.2) ?_ (fun s _ hs => wp_some hs)
  refine wp_whl (fun s => 0 ≤ s.1 ∧ s.1 ≤ σ kR_outs 0 ∧ II s.2 ∧ FR [kR_outShell] σ s.2) (fun s => (σ kR_outs 0 - s.1).toNat) ⟨Int.le_refl 0, bo.1, hσ, FR_refl _ _⟩ ?_
  rintro ⟨h, τ⟩ ⟨h0, h1, hτ, fτ⟩
  dsimp only at h0 h1 hτ fτ ⊢
  simp only [(fo fτ).2.1]
  rw [w32_of (x := h) (by omega) (by omega), w32_of (x := σ kR_outs 0) (by omega) (by omega)]
  refine wp_if (fun g => ?_) (fun g => wp_ir ⟨hτ, fτ⟩)
  refine wp_waI hτ b_kR_outShell (by omega) (by omega) (by decide) (fun σ1 h1' e1 => ?_)
  have f1 : FR [kR_outShell] σ σ1 := FR_tr fτ (FR_sg e1) (by decide) (by decide)
  have y1 : σ1 kR_outShell h = -1 := sg_val e1
  refine wp_bd (P := fun s => II s.2 ∧ FR [kR_outShell] σ s.2) ?_ (fun s _ hs => wp_il ⟨⟨by dsimp only; omega, by dsimp only; omega, hs.1, hs.2⟩, by dsimp only; omega⟩)
  refine wp_whl (fun s => 0 ≤ s.1 ∧ s.1 ≤ σ kR_outs 0 ∧ II s.2 ∧ FR [kR_outShell] σ s.2 ∧ -1 ≤ s.2 kR_outShell h ∧ s.2 kR_outShell h < σ kR_outs 0) (fun s => (σ kR_outs 0 - s.1).toNat) ⟨Int.le_refl 0, bo.1, h1', f1, by dsimp only; omega, by dsimp only; omega⟩ ?_
  rintro ⟨s, υ⟩ ⟨s0, s1, hυ, fυ, b0, b1⟩
  dsimp only at s0 s1 hυ fυ b0 b1 ⊢
  obtain ⟨ocυ, eo, ec⟩ := fo fυ
  simp only [eo]
  rw [w32_of (x := s) (by omega) (by omega), w32_of (x := σ kR_outs 0) (by omega) (by omega)]
  refine wp_if (fun gs => ?_) (fun gs => wp_ir ⟨hυ, fυ⟩)
  refine wp_rd h0 (by omega) ?_
  refine wp_if (fun _ => ?_) (fun _ => wp_ir ⟨hυ, fυ⟩)
  refine wp_rd s0 (by omega) (wp_rd h0 (by omega) ?_)
  have next : ∀ ω, II ω → FR [kR_outShell] σ ω → (-1 ≤ ω kR_outShell h ∧ ω kR_outShell h < σ kR_outs 0) → ((0 ≤ s + 1 ∧ s + 1 ≤ σ kR_outs 0 ∧ II ω ∧ FR [kR_outShell] σ ω ∧ -1 ≤ ω kR_outShell h ∧ ω kR_outShell h < σ kR_outs 0) ∧ (σ kR_outs 0 - (s + 1)).toNat < (σ kR_outs 0 - s).toNat) := fun ω a b c => ⟨⟨by omega, by omega, a, b, c.1, c.2⟩, by omega⟩
  refine wp_if (fun _ => wp_il (next υ hυ fυ ⟨b0, b1⟩)) (fun _ => ?_)
  refine wp_bd (v_holds hυ ocυ s0 (by omega) h0 (by omega) (by omega)) ?_
  rintro b - -
  refine wp_if (fun _ => ?_) (fun _ => wp_il (next υ hυ fυ ⟨b0, b1⟩))
  have put : wp_ (wa_ υ kR_outShell 8193 h s fun σ_78 => some σ_78) (fun ω => II ω ∧ FR [kR_outShell] σ ω ∧ -1 ≤ ω kR_outShell h ∧ ω kR_outShell h < σ kR_outs 0) :=
    wp_waI hυ b_kR_outShell (by omega) (by omega) (by omega) (fun σ2 h2 e2 => wp_some ⟨h2, FR_tr fυ (FR_sg e2) (by decide) (by decide), by rw [sg_val e2]; omega, by rw [sg_val e2]; omega⟩)
  refine wp_bd (P := fun ω => II ω ∧ FR [kR_outShell] σ ω ∧ -1 ≤ ω kR_outShell h ∧ ω kR_outShell h < σ kR_outs 0) ?_ (fun ω _ hω => wp_il (next ω hω.1 hω.2.1 hω.2.2))
  refine wp_rd h0 (by omega) ?_
  rw [w32_of (x := υ kR_outShell h) (by omega) (by omega)]
  refine wp_if (fun _ => put) (fun gn => ?_)
  refine wp_rd s0 (by omega) (wp_rd h0 (by omega) ?_)
  rw [w32_of (x := υ kR_outShell h) (by omega) (by omega)]
  refine wp_rd (by omega) (by omega) ?_
  exact wp_if (fun _ => put) (fun _ => wp_some ⟨hυ, fυ, b0, b1⟩)
end SNU
