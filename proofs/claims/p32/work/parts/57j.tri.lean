section TRI
theorem DS_add {σ τ : SG} (hσ : II σ) (hτ : II τ) (d : DS σ) (s0 : 0 ≤ σ kR_spots 0) (e1 : τ kR_spots 0 = σ kR_spots 0 + 1) (sm : ∀ s, s ≠ σ kR_spots 0 → τ kR_spotX s = σ kR_spotX s ∧ τ kR_spotY s = σ kR_spotY s) (nw : ∀ s, 0 ≤ s → s < σ kR_spots 0 → ¬ (σ kR_spotX s = τ kR_spotX (σ kR_spots 0) ∧ σ kR_spotY s = τ kR_spotY (σ kR_spots 0))) : DS τ := by
  have inj : ∀ i j, FI τ i = FI τ j → τ kR_spotX i = τ kR_spotX j ∧ τ kR_spotY i = τ kR_spotY j := fun i j h => by
    have h1 := ii_kR_spotX hτ i
    have h2 := ii_kR_spotY hτ i
    have h3 := ii_kR_spotX hτ j
    have h4 := ii_kR_spotY hτ j
    unfold FI fi_ at h
    omega
  intro i j i0 i1 j0 j1 h
  obtain ⟨hx, hy⟩ := inj i j h
  by_cases p : i = σ kR_spots 0
  · by_cases q : j = σ kR_spots 0
    · rw [p, q]
    · have z := sm j q
      exact absurd ⟨by rw [← z.1, ← hx, p], by rw [← z.2, ← hy, p]⟩ (nw j j0 (by omega))
  · have y := sm i p
    by_cases q : j = σ kR_spots 0
    · exact absurd ⟨by rw [← y.1, hx, q], by rw [← y.2, hy, q]⟩ (nw i i0 (by omega))
    · have z := sm j q
      refine d i j i0 (by omega) j0 (by omega) ?_
      unfold FI at h ⊢
      rw [y.1, y.2, z.1, z.2] at h
      exact h
theorem DS_f {σ τ : SG} {ms : List Nat} (f : FR ms σ τ) (h : dj ms [kR_spots, kR_spotX, kR_spotY] = true) (j : DS σ) : DS τ := by
  intro a b a0 a1 b0 b1 e
  unfold FI at e
  rw [FR_dj f h (c := kR_spots) (by decide)] at a1 b1
  rw [FR_dj f h (c := kR_spotX) (by decide), FR_dj f h (c := kR_spotY) (by decide)] at e
  exact j a b a0 a1 b0 b1 e
/-- what a hull tells -/
theorem HU_SHn {τ : SG} {H : Int} (h0 : 0 ≤ H ∧ H ≤ 1024) (m : τ kR_planMany 32 = if 2 < H then 3 else 2) (k0 : τ kR_plan 65536 = if H = 0 then 7 else if 2 < H then 3 else H) (c0 : τ kR_plan 65537 = if 2 < H then 1 else H) (s0 : 2 < H → τ kR_plan 65538 = H + 1) (q0 : τ kR_pointMany 32 = if 2 < H then H + 1 else H) : SHn τ := by
  by_cases z : H = 0
  · rw [if_neg (by omega)] at m c0 q0
    rw [if_pos z] at k0
    have u := UN_empty (σ := fun _ _ => 0) (τ := τ) (p := 65536) (k := 7) (d := 50) (fun _ => by decide) ⟨by decide, by decide⟩ k0 (by rw [show (65536 : Int) + 1 = 65537 by decide, c0, z]) (by rw [m]) (by rw [q0, z])
    obtain ⟨⟨f, u1⟩, ⟨n, u2⟩⟩ := u
    exact ⟨by omega, ⟨n, by rw [show τ kR_pointMany 32 = τ kR_pointMany 32 - 0 by omega]; exact u2⟩, f, u1⟩
  · rw [if_neg z] at k0
    by_cases y : 2 < H
    · rw [if_pos y] at m k0 c0 q0
      have l := el_3 k0
      rw [show (65536 : Int) + 1 = 65537 by decide, c0] at l
      have e : eP (τ kR_plan) 65536 = H + 1 := by
        unfold eP
        rw [if_neg (by omega), if_pos k0, show (65536 : Int) + 1 = 65537 by decide, c0]
        show (0 : Int) + τ kR_plan (65536 + 2 + ((0 : Nat) : Int)) = _
        rw [show (65536 : Int) + 2 + ((0 : Nat) : Int) = 65538 by decide, s0 y]; omega
      have o : eO (τ kR_plan) 65536 := ⟨by omega, by omega, by rw [show (65536 : Int) + 1 = 65537 by decide, c0]; exact ⟨by decide, by decide⟩, fun w => by omega, fun _ k a b => by
        rw [show (65536 : Int) + 1 = 65537 by decide, c0] at b
        rw [show (65536 : Int) + 2 + k = 65538 by omega, s0 y]; omega⟩
      exact ⟨by omega, ⟨1, o, by rw [l]; show _ = _; omega, by rw [e]; omega⟩, 1, Or.inr ⟨by omega, 65536 + eL (τ kR_plan) 65536, Or.inl ⟨by omega, by omega, by rw [show (65536 : Int) + 1 = 65537 by decide]; omega, rfl⟩, ⟨rfl, by omega⟩⟩⟩
    · rw [if_neg y] at m k0 c0 q0
      have l := el_n (pl := τ kR_plan) (p := 65536) (by omega)
      have e := ep_l (pl := τ kR_plan) (p := 65536) (by omega)
      rw [show (65536 : Int) + 1 = 65537 by decide, c0] at e
      have o : eO (τ kR_plan) 65536 := ⟨by omega, by omega, by rw [show (65536 : Int) + 1 = 65537 by decide, c0]; omega, fun w => by rw [show (65536 : Int) + 1 = 65537 by decide]; omega, fun w => by omega⟩
      exact ⟨by omega, ⟨1, o, by rw [l]; show _ = _; omega, by rw [e]; omega⟩, 1, Or.inr ⟨by omega, 65536 + eL (τ kR_plan) 65536, Or.inl ⟨by omega, by omega, by rw [show (65536 : Int) + 1 = 65537 by decide]; omega, rfl⟩, ⟨rfl, by omega⟩⟩⟩
/-- triangles that were told -/
def TRs (σ : SG) (k : Int) : Prop := 0 ≤ k ∧ σ kR_planMany 32 = 2 + 3 * k ∧ σ kR_pointMany 32 = 4 * k ∧ σ kR_plan 65536 = 6 ∧ PT (σ kR_plan) 3 k.toNat 65538 (65536 + σ kR_planMany 32) ∧ FL (σ kR_plan) k.toNat 65538 (65536 + σ kR_planMany 32) (σ kR_pointMany 32)
theorem TRs_0 {σ : SG} (h1 : σ kR_planMany 32 = 2) (h2 : σ kR_plan 65536 = 6) (h4 : σ kR_pointMany 32 = 0) : TRs σ 0 := by
  refine ⟨Int.le_refl 0, by omega, by omega, h2, ?_, ?_⟩
  · show (65538 : Int) = _; omega
  · exact ⟨by omega, h4⟩
theorem TRs_go {σ τ : SG} {k : Int} (h : TRs σ k) (e1 : τ kR_planMany 32 = σ kR_planMany 32 + 3) (e2 : τ kR_pointMany 32 = σ kR_pointMany 32 + 4) (p1 : τ kR_plan (65536 + σ kR_planMany 32) = 3) (p2 : τ kR_plan (65536 + σ kR_planMany 32 + 1) = 1) (p3 : τ kR_plan (65536 + σ kR_planMany 32 + 2) = 4) (sm : ∀ i, i < 65536 + σ kR_planMany 32 → τ kR_plan i = σ kR_plan i) : TRs τ (k + 1) := by
  obtain ⟨a, b, c, d, e, f⟩ := h
  have l := el_3 p1
  rw [p2] at l
  have ep : eP (τ kR_plan) (65536 + σ kR_planMany 32) = 4 := by
    unfold eP
    rw [if_neg (by omega), if_pos p1, p2]
    show (0 : Int) + τ kR_plan (65536 + σ kR_planMany 32 + 2 + ((0 : Nat) : Int)) = _
    rw [show (65536 : Int) + σ kR_planMany 32 + 2 + ((0 : Nat) : Int) = 65536 + σ kR_planMany 32 + 2 by omega, p3]; rfl
  have o : eO (τ kR_plan) (65536 + σ kR_planMany 32) := ⟨by omega, by omega, by rw [p2]; exact ⟨by decide, by decide⟩, fun w => by omega, fun _ j x y => by
    rw [p2] at y
    rw [show 65536 + σ kR_planMany 32 + 2 + j = 65536 + σ kR_planMany 32 + 2 by omega, p3]; decide⟩
  have g1 := PT_app (PT_cg e (fun i _ y => sm i y)) p1 (by rw [p2]; decide)
  have g2 := FL_app (FL_cg f (fun i _ y => sm i y)) o
  rw [l] at g1 g2
  rw [ep] at g2
  refine ⟨by omega, by omega, by omega, by rw [sm _ (by omega)]; exact d, ?_, ?_⟩
  · rw [show (k + 1).toNat = k.toNat + 1 by omega, e1, show 65536 + (σ kR_planMany 32 + 3) = 65536 + σ kR_planMany 32 + (2 + 1) by omega]; exact g1
  · rw [show (k + 1).toNat = k.toNat + 1 by omega, e1, e2, show 65536 + (σ kR_planMany 32 + 3) = 65536 + σ kR_planMany 32 + (2 + 1) by omega]; exact g2
theorem TRs_SH {σ : SG} {k : Int} (hk : k ≤ 512) (h : TRs σ k) (h7 : σ kR_plan 65537 = k) : SHn σ := by
  obtain ⟨a, b, c, d, e, f⟩ := h
  have e6 := ep_g (pl := σ kR_plan) (p := 65536) (by omega)
  have l6 := el_n (pl := σ kR_plan) (p := 65536) (by omega)
  have k0 : 0 ≤ σ kR_plan 65537 ∧ σ kR_plan 65537 ≤ 2048 := by omega
  refine ⟨by omega, ⟨k.toNat + 1, ⟨by omega, by omega, k0, fun z => by omega, fun z => by omega⟩, ?_⟩, 1, ?_⟩
  · rw [l6, e6, Int.sub_zero]; exact f
  · refine Or.inr ⟨by omega, 65536 + σ kR_planMany 32, Or.inr (Or.inl ⟨by omega, by omega, k0.1, ?_⟩), ⟨rfl, rfl⟩⟩
    rw [d, show (65536 : Int) + 1 = 65537 by decide, h7]; exact e
end TRI
