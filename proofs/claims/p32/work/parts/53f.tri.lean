section TRF
theorem irm_nx {k L : Int} (k0 : 0 ≤ k) (k1 : k < L) (hL : L ≤ 2048) : q_irm (k + 1) L = (if k + 1 < L then k + 1 else 0) := by
  unfold q_irm
  rw [w32_of (x := k + 1) (by omega) (by omega), w32_of (x := L) (by omega) (by omega)]
  split
  · exact Int.tmod_eq_of_lt (by omega) (by omega)
  · have : k + 1 = L := by omega
    rw [this, Int.tmod_self]
theorem WV_mono {σ : SG} {cs : List (Int × (Int → Int))} {x : Int × (Int → Int)} {a b : Int} (h : WV σ cs a b) : WV σ (x :: cs) a b := by
  refine ⟨h.1, h.2.1, ?_⟩
  rcases h.2.2 with q | ⟨y, hy, e⟩
  · exact Or.inl q
  · exact Or.inr ⟨y, List.mem_cons_of_mem _ hy, e⟩
abbrev GT : List Nat := [kR_circleMany, kR_isDone, kR_limbs, kR_onCircle, kR_sign, kR_triangleA, kR_triangleB, kR_triangleC, kR_triangleMany, kR_w, kR_waitFrom, kR_waitTo, kR_waits]
theorem FRG {σ τ υ : SG} {ms : List Nat} (a : FR GT σ τ) (b : FR ms τ υ) (h : (ms.all fun c => GT.contains c) = true) : FR GT σ υ := FR_tr a b (by decide) h
theorem v_gatherTriangles {σ : SG} (hσ : II σ) (hd : DS σ) : wp_ (fR_gatherTriangles σ) (fun τ => II τ ∧ FR [kR_circleMany, kR_isDone, kR_limbs, kR_onCircle, kR_sign, kR_triangleA, kR_triangleB, kR_triangleC, kR_triangleMany, kR_w, kR_waitFrom, kR_waitTo, kR_waits] σ τ) := by
  unfold fR_gatherTriangles
  have hs := ii_kR_spots hσ 0
  refine wp_wfI hσ b_kR_triangleMany (by decide) (fun σ1 h1 e1 => ?_)
  refine wp_wfI h1 b_kR_waits (by decide) (fun σ2 h2 e2 => ?_)
  have f2 : FR GT σ σ2 := FR_tr (FR_le (FR_sg e1) (by decide) : FR GT σ σ1) (FR_sg e2) (by decide) (by decide)
  have sp2 := SP_fr f2 (by decide) (by decide) (by decide)
  have t2 : σ2 kR_triangleMany 0 = 0 := by rw [e2, sg_nc (by decide)]; exact sg_val e1
  have w2 : σ2 kR_waits 0 = 0 := sg_val e2
  simp only [sp2.2.2]
  rw [w32_of (x := σ kR_spots 0) (by omega) (by omega)]
  refine wp_if (fun g3 => wp_some ⟨h2, f2⟩) (fun g3 => ?_)
  -- no way is done
  refine wp_bd (P := fun s => II s.2 ∧ FR GT σ s.2 ∧ s.2 kR_triangleMany 0 = 0 ∧ s.2 kR_waits 0 = 0 ∧ ∀ i, 0 ≤ i → i < 1024 * σ kR_spots 0 → s.2 kR_isDone i = 0) ?_ ?_
  · refine wp_whl (fun s => 0 ≤ s.1 ∧ s.1 ≤ 1024 * σ kR_spots 0 ∧ II s.2 ∧ FR GT σ s.2 ∧ s.2 kR_triangleMany 0 = 0 ∧ s.2 kR_waits 0 = 0 ∧ ∀ i, 0 ≤ i → i < s.1 → s.2 kR_isDone i = 0) (fun s => (1024 * σ kR_spots 0 - s.1).toNat) ⟨Int.le_refl 0, by dsimp only; omega, h2, f2, t2, w2, fun i i0 i1 => by dsimp only at i1; omega⟩ ?_
    rintro ⟨k, τ⟩ ⟨k0, k1, hτ, hf, ht, hw, hz⟩
    dsimp only at k0 k1 hτ hf ht hw hz ⊢
    have sp := SP_fr hf (by decide) (by decide) (by decide)
    simp only [sp.2.2]
    rw [w32_of (x := k) (by omega) (by omega), w32_of (x := 1024 * σ kR_spots 0) (by omega) (by omega)]
    refine wp_if (fun g => ?_) (fun g => ?_)
    · refine wp_waI hτ b_kR_isDone (by omega) (by omega) (by decide) (fun υ hυ e => ?_)
      refine wp_il ⟨⟨by dsimp only; omega, by dsimp only; omega, hυ, FRG hf (FR_sg e) (by decide), by show υ kR_triangleMany 0 = 0; rw [e, sg_nc (by decide)]; exact ht, by show υ kR_waits 0 = 0; rw [e, sg_nc (by decide)]; exact hw, fun i i0 i1 => ?_⟩, by dsimp only; omega⟩
      dsimp only at i1 ⊢
      by_cases q : i = k
      · rw [q, e, sg_at]; rfl
      · rw [e, sg_ni q]; exact hz i i0 (by omega)
    · exact wp_ir ⟨hτ, hf, ht, hw, fun i i0 i1 => hz i i0 (by omega)⟩
  rintro ⟨k, σ3⟩ - ⟨h3, f3, t3, w3, z3⟩
  dsimp only at h3 f3 t3 w3 z3 ⊢
  have sp3 := SP_fr f3 (by decide) (by decide) (by decide)
  refine wp_bd (v_leastSpot h3 (by rw [sp3.2.2]; omega)) ?_
  rintro l - ⟨l0, l1, l2⟩
  have hd3 : DS σ3 := by
    intro i j i0 i1 j0 j1 e
    rw [sp3.2.2] at i1 j1
    rw [SP_F sp3, SP_F sp3] at e
    exact hd i j i0 i1 j0 j1 e
  refine wp_bd (v_hullBehind h3 hd3 l0 l1 (by rw [sp3.2.2]; omega) l2) ?_
  rintro u - ⟨u0, u1, u2, u3⟩
  rw [sp3.2.2] at l1 l2 u1 u3
  refine wp_bd (v_waitFor h3 l0 (by omega) u0 (by omega) (by omega)) ?_
  rintro σ4 - ⟨h4, f4, n4, wf4, wt4, -⟩
  have f4' : FR GT σ σ4 := FRG f3 f4 (by decide)
  have he : HE σ l u := by
    refine ⟨fun q => u2 q.symm, fun j j0 j1 hj => ?_⟩
    obtain ⟨p1, p2⟩ := u3 j j0 j1 hj
    rw [SP_O sp3] at p1 p2
    refine ⟨p1, fun q => ?_⟩
    have w := p2 q
    unfold WY at w
    rw [sp3.1, sp3.1, sp3.1, sp3.2.1, sp3.2.1, sp3.2.1] at w
    have lt : ∀ j, 0 ≤ j → j < σ kR_spots 0 → j ≠ l → FI σ l < FI σ j := by
      intro j j0 j1 hj
      have a := l2 j j0 j1
      rw [SP_F sp3, SP_F sp3] at a
      have b : FI σ l ≠ FI σ j := fun e => hj (hd l j l0 l1 j0 j1 e).symm
      omega
    exact ray_dot (lt u u0 u1 u2) (lt j j0 j1 hj) q w
  refine wp_bd (P := fun τ => II τ ∧ FR GT σ τ) ?_ (fun τ _ h => wp_some h)
  refine wp_whl (fun τ => II τ ∧ FR GT σ τ ∧ ∃ cs codes, TI σ τ cs codes) (fun τ => (2049 - τ kR_triangleMany 0).toNat * 10000 + (τ kR_waits 0).toNat) ⟨h4, f4', [], [], ?_⟩ ?_
  · refine ⟨fun x hx => (List.not_mem_nil hx).elim, List.nodup_nil, fun c hc => (List.not_mem_nil hc).elim, ?_, ?_, ?_, ?_⟩
    · rw [FR_at f4 (by decide), t3]; rfl
    · intro p q p0 p1 q0 q1
      rw [FR_at f4 (by decide), z3 _ (by omega) (by omega)]
      constructor
      · intro h; exact absurd rfl h
      · rintro ⟨x, hx, -⟩; exact (List.not_mem_nil hx).elim
    · intro i i0 i1
      have : i = σ3 kR_waits 0 := by omega
      rw [this, wf4, wt4]
      exact ⟨⟨l0, l1⟩, ⟨u0, u1⟩, Or.inl he⟩
    · rw [n4, w3, FR_at f4 (by decide), t3]; decide
  rintro τ ⟨hτ, hf, cs, codes, hT⟩
  have sp := SP_fr hf (by decide) (by decide) (by decide)
  have bT := TI_le hs.2 hT
  obtain ⟨T1, T2, T3, T4, T5, T6, T7⟩ := hT
  have bw := ii_kR_waits hτ 0
  have bt := ii_kR_triangleMany hτ 0
  rw [w32_of (x := τ kR_waits 0) (by omega) (by omega)]
  refine wp_if (fun g => ?_) (fun g => wp_ir ⟨hτ, hf⟩)
  refine wp_wfI hτ b_kR_waits (by omega) (fun σ5 h5 e5 => ?_)
  have w5 : σ5 kR_waits 0 = τ kR_waits 0 - 1 := sg_val e5
  have f5 : FR GT σ σ5 := FRG hf (FR_sg e5) (by decide)
  have sp5 := SP_fr f5 (by decide) (by decide) (by decide)
  have d5 : ∀ i, σ5 kR_isDone i = τ kR_isDone i := fun i => by rw [e5, sg_nc (by decide)]
  have m5 : σ5 kR_triangleMany 0 = τ kR_triangleMany 0 := by rw [e5, sg_nc (by decide)]
  have wf5 : ∀ i, σ5 kR_waitFrom i = τ kR_waitFrom i := fun i => by rw [e5, sg_nc (by decide)]
  have wt5 : ∀ i, σ5 kR_waitTo i = τ kR_waitTo i := fun i => by rw [e5, sg_nc (by decide)]
  rw [w5, w32_of (x := τ kR_waits 0 - 1) (by omega) (by omega)]
  refine wp_rd (by omega) (by omega) (wp_rd (by omega) (by omega) ?_)
  rw [wf5, wt5]
  have hW := T6 (τ kR_waits 0 - 1) (by omega) (by omega)
  generalize τ kR_waitFrom (τ kR_waits 0 - 1) = a at *
  generalize τ kR_waitTo (τ kR_waits 0 - 1) = b at *
  obtain ⟨⟨a0, a1⟩, ⟨b0, b1⟩, -⟩ := id hW
  rw [w32_of (x := 1024 * a + b) (by omega) (by omega)]
  refine wp_rd (by omega) (by omega) ?_
  rw [d5]
  -- what holds when nothing is added
  have keep : ∀ υ, II υ → FR [kR_limbs, kR_sign, kR_w] σ5 υ → II υ ∧ FR GT σ υ ∧ ∃ cs codes, TI σ υ cs codes := by
    intro υ hυ fυ
    refine ⟨hυ, FRG f5 fυ (by decide), cs, codes, T1, T2, T3, ?_, ?_, ?_, ?_⟩
    · rw [FR_at fυ (by decide), m5]; exact T4
    · intro p q p0 p1 q0 q1
      rw [FR_at fυ (by decide), d5]; exact T5 p q p0 p1 q0 q1
    · intro i i0 i1
      rw [FR_at fυ (by decide), w5] at i1
      rw [FR_at fυ (by decide), FR_at fυ (by decide), wf5, wt5]
      exact T6 i i0 (by omega)
    · rw [FR_at fυ (by decide), FR_at fυ (by decide), w5, m5]; omega
  have less : ∀ υ, FR [kR_limbs, kR_sign, kR_w] σ5 υ → (2049 - υ kR_triangleMany 0).toNat * 10000 + (υ kR_waits 0).toNat < (2049 - τ kR_triangleMany 0).toNat * 10000 + (τ kR_waits 0).toNat := by
    intro υ fυ
    rw [FR_at fυ (by decide), FR_at fυ (by decide), w5, m5]; omega
  refine wp_if (fun gd => ?_) (fun gd => ?_)
  · exact wp_il ⟨keep σ5 h5 (FR_refl _ _), less σ5 (FR_refl _ _)⟩
  have nd : ¬ ∃ x ∈ cs, ED x.1 x.2 a b := by
    intro q
    have := (T5 a b a0 a1 b0 b1).mpr q
    exact gd (by unfold nz; simp [this])
  refine wp_bd (v_third h5 a0 (by rw [sp5.2.2]; exact a1) b0 (by rw [sp5.2.2]; exact b1)) ?_
  rintro ⟨v, σ6⟩ - ⟨h6, f6, hv⟩
  dsimp only at h6 f6 hv ⊢
  rw [sp5.2.2] at hv
  have bv : -1 ≤ v ∧ v ≤ 1023 := by rcases hv with q | q <;> omega
  rw [w32_of (x := v) (by omega) (by omega)]
  refine wp_if (fun gv => ?_) (fun gv => ?_)
  · exact wp_il ⟨keep σ6 h6 f6, less σ6 f6⟩
  obtain ⟨v0, v1, v2, v3⟩ := hv.resolve_left (fun q => gv q.1)
  rw [SP_O sp5] at v2
  have v3 : ∀ k, 0 ≤ k → k < σ kR_spots 0 → 0 < OI σ a b k → CI σ a b v k ≤ 0 := by
    intro k k0 k1 q
    have := v3 k k0 k1 (by rw [SP_O sp5]; exact q)
    rw [SP_C sp5] at this; exact this
  have f6' : FR GT σ σ6 := FRG f5 f6 (by decide)
  have sp6 := SP_fr f6' (by decide) (by decide) (by decide)
  have hd6 : DS σ6 := by
    intro i j i0 i1 j0 j1 e
    rw [sp6.2.2] at i1 j1
    rw [SP_F sp6, SP_F sp6] at e
    exact hd i j i0 i1 j0 j1 e
  refine wp_bd (v_gatherCircle h6 hd6 a0 (by rw [sp6.2.2]; exact a1) b0 (by rw [sp6.2.2]; exact b1) v0 (by rw [sp6.2.2]; exact v1) (by rw [SP_O sp6]; exact v2)) ?_
  rintro σ7 - ⟨h7, f7, hG⟩
  have f7' : FR GT σ σ7 := FRG f6' f7 (by decide)
  have hG : GC σ a b v (σ7 kR_onCircle) (σ7 kR_circleMany 0) := by
    obtain ⟨g1, g2, g3, g4, g5, g6⟩ := hG
    rw [sp6.2.2] at g2
    refine ⟨g1, g2, fun i i0 i1 => ?_, fun k k0 k1 kc => ?_, fun i i0 i1 => ?_, fun i j i0 ij j1 => ?_⟩
    · obtain ⟨q1, q2, q3⟩ := g3 i i0 i1
      rw [sp6.2.2] at q2
      rw [SP_C sp6] at q3
      exact ⟨q1, q2, q3⟩
    · exact g4 k k0 (by rw [sp6.2.2]; exact k1) (by rw [SP_C sp6]; exact kc)
    · have := g5 i i0 i1; rw [SP_F sp6, SP_F sp6] at this; exact this
    · have := g6 i j i0 ij j1; rw [SP_O sp6] at this; exact this
  have hE := tri_empty T1 hW v0 v1 v2 v3
  have hC := CG_of v2 hE hG
  have hED := tri_ed hd T1 hW v0 v1 v2 hE hG
  have hFr := tri_fresh T1 hC hED nd
  have hN := TI_new hd ⟨T1, T2, T3, T4, T5, T6, T7⟩ hC hFr
  generalize hL : σ7 kR_circleMany 0 = L at *
  generalize hfn : σ7 kR_onCircle = f at *
  have L3 := hC.1
  have Ln := hC.2.1
  have hF := hC.2.2.1
  have cnt : τ kR_triangleMany 0 + (L - 2) ≤ 2048 := by
    have q := nd_le _ _ hN.1 (fun x hx => (hN.2 x hx).1)
    rw [List.length_append, nc_len] at q
    omega
  have d7 : ∀ i, σ7 kR_isDone i = τ kR_isDone i := fun i => by rw [FR_at f7 (by decide), FR_at f6 (by decide), d5]
  have m7 : σ7 kR_triangleMany 0 = τ kR_triangleMany 0 := by rw [FR_at f7 (by decide), FR_at f6 (by decide), m5]
  have w7 : σ7 kR_waits 0 = τ kR_waits 0 - 1 := by rw [FR_at f7 (by decide), FR_at f6 (by decide), w5]
  have wf7 : ∀ i, σ7 kR_waitFrom i = τ kR_waitFrom i := fun i => by rw [FR_at f7 (by decide), FR_at f6 (by decide), wf5]
  have wt7 : ∀ i, σ7 kR_waitTo i = τ kR_waitTo i := fun i => by rw [FR_at f7 (by decide), FR_at f6 (by decide), wt5]
  clear keep less
  -- the ways round the circle
  refine wp_bd (P := fun s => II s.2 ∧ FR [kR_isDone, kR_waitFrom, kR_waitTo, kR_waits] σ7 s.2 ∧ (∀ p q, 0 ≤ p → p < σ kR_spots 0 → 0 ≤ q → q < σ kR_spots 0 → (s.2 kR_isDone (1024 * p + q) ≠ 0 ↔ ∃ x ∈ (L, f) :: cs, ED x.1 x.2 p q)) ∧ (∀ i, 0 ≤ i → i < s.2 kR_waits 0 → WV σ ((L, f) :: cs) (s.2 kR_waitFrom i) (s.2 kR_waitTo i)) ∧ s.2 kR_waits 0 ≤ τ kR_waits 0 - 1 + L) ?_ ?_
  · refine wp_whl (fun s => 0 ≤ s.1 ∧ s.1 ≤ L ∧ II s.2 ∧ FR [kR_isDone, kR_waitFrom, kR_waitTo, kR_waits] σ7 s.2 ∧ (∀ p q, 0 ≤ p → p < σ kR_spots 0 → 0 ≤ q → q < σ kR_spots 0 → (s.2 kR_isDone (1024 * p + q) ≠ 0 ↔ (∃ x ∈ cs, ED x.1 x.2 p q) ∨ ∃ i, 0 ≤ i ∧ i < s.1 ∧ p = f i ∧ q = f (if i + 1 < L then i + 1 else 0))) ∧ (∀ i, 0 ≤ i → i < s.2 kR_waits 0 → WV σ ((L, f) :: cs) (s.2 kR_waitFrom i) (s.2 kR_waitTo i)) ∧ s.2 kR_waits 0 ≤ τ kR_waits 0 - 1 + s.1) (fun s => (L - s.1).toNat) ⟨Int.le_refl 0, by dsimp only; omega, h7, FR_refl _ _, fun p q p0 p1 q0 q1 => ?_, fun i i0 i1 => ?_, by dsimp only; omega⟩ ?_
    · dsimp only
      rw [d7, T5 p q p0 p1 q0 q1]
      constructor
      · exact Or.inl
      · rintro (h | ⟨i, i0, i1, -⟩)
        · exact h
        · omega
    · dsimp only at i1 ⊢
      rw [wf7, wt7]
      exact WV_mono (T6 i i0 (by omega))
    rintro ⟨k, υ⟩ ⟨k0, k1, hυ, fυ, hdn, hwv, hwn⟩
    dsimp only at k0 k1 hυ fυ hdn hwv hwn ⊢
    have cmu : υ kR_circleMany 0 = L := by rw [FR_at fυ (by decide)]; exact hL
    have ocu : ∀ i, υ kR_onCircle i = f i := fun i => by rw [FR_at fυ (by decide), hfn]
    simp only [cmu]
    rw [w32_of (x := k) (by omega) (by omega), w32_of (x := L) (by omega) (by omega)]
    refine wp_if (fun gk => ?_) (fun gk => ?_)
    · refine wp_rd (by omega) (by omega) ?_
      refine wp_ck (by omega) ?_
      rw [irm_nx k0 gk (by omega), ocu]
      have nx : 0 ≤ (if k + 1 < L then k + 1 else 0) ∧ (if k + 1 < L then k + 1 else 0) < L := by split <;> omega
      have hed : ED L f (f k) (f (if k + 1 < L then k + 1 else 0)) := ⟨k, k0, gk, rfl, rfl⟩
      have rP := hF k k0 gk
      have rQ := hF _ nx.1 nx.2
      rw [w32_of (x := if k + 1 < L then k + 1 else 0) (by omega) (by omega)]
      refine wp_rd (by omega) (by omega) ?_
      rw [ocu]
      generalize hP : f k = P at *
      generalize hQ : f (if k + 1 < L then k + 1 else 0) = Q at *
      rw [w32_of (x := 1024 * P + Q) (by omega) (by omega)]
      refine wp_waI hυ b_kR_isDone (by omega) (by omega) (by decide) (fun ω hω e => ?_)
      have fω : FR [kR_isDone, kR_waitFrom, kR_waitTo, kR_waits] σ7 ω := FR_tr fυ (FR_sg e) (by decide) (by decide)
      have bω := ii_kR_waits hω 0
      have ww : ω kR_waits 0 = υ kR_waits 0 := by rw [e, sg_nc (by decide)]
      have dω : ∀ p q, 0 ≤ p → p < σ kR_spots 0 → 0 ≤ q → q < σ kR_spots 0 → (ω kR_isDone (1024 * p + q) ≠ 0 ↔ (∃ x ∈ cs, ED x.1 x.2 p q) ∨ ∃ i, 0 ≤ i ∧ i < k + 1 ∧ p = f i ∧ q = f (if i + 1 < L then i + 1 else 0)) := by
        intro p q p0 p1 q0 q1
        by_cases c : p = P ∧ q = Q
        · rw [c.1, c.2, e, sg_at]
          constructor
          · intro _; exact Or.inr ⟨k, k0, by omega, hP.symm, hQ.symm⟩
          · intro _; decide
        · rw [e, sg_ni (by omega), hdn p q p0 p1 q0 q1]
          constructor
          · rintro (h | ⟨i, i0, i1, r1, r2⟩)
            · exact Or.inl h
            · exact Or.inr ⟨i, i0, by omega, r1, r2⟩
          · rintro (h | ⟨i, i0, i1, r1, r2⟩)
            · exact Or.inl h
            · by_cases ik : i = k
              · exfalso; rw [ik, hP] at r1; rw [ik, hQ] at r2; exact c ⟨r1, r2⟩
              · exact Or.inr ⟨i, i0, by omega, r1, r2⟩
      refine wp_bd (P := fun ψ => II ψ ∧ FR [kR_isDone, kR_waitFrom, kR_waitTo, kR_waits] σ7 ψ ∧ (∀ i, ψ kR_isDone i = ω kR_isDone i) ∧ (∀ i, 0 ≤ i → i < ψ kR_waits 0 → WV σ ((L, f) :: cs) (ψ kR_waitFrom i) (ψ kR_waitTo i)) ∧ ψ kR_waits 0 ≤ τ kR_waits 0 - 1 + (k + 1)) ?_ (fun ψ _ hψ => wp_il ⟨⟨by dsimp only; omega, by dsimp only; omega, hψ.1, hψ.2.1, fun p q p0 p1 q0 q1 => by show ψ kR_isDone (1024 * p + q) ≠ 0 ↔ _; rw [hψ.2.2.1]; exact dω p q p0 p1 q0 q1, hψ.2.2.2.1, hψ.2.2.2.2⟩, by dsimp only; omega⟩)
      rw [w32_of (x := 1024 * Q + P) (by omega) (by omega)]
      refine wp_rd (by omega) (by omega) ?_
      have wvω : ∀ i, 0 ≤ i → i < ω kR_waits 0 → WV σ ((L, f) :: cs) (ω kR_waitFrom i) (ω kR_waitTo i) := by
        intro i i0 i1
        rw [e, sg_nc (by decide), sg_nc (by decide)]
        exact hwv i i0 (by omega)
      refine wp_if (fun _ => ?_) (fun _ => ?_)
      · exact wp_some ⟨hω, fω, fun _ => rfl, wvω, by omega⟩
      · refine wp_bd (v_waitFor hω rQ.1 (by omega) rP.1 (by omega) (by omega)) ?_
        rintro ψ - ⟨hψ, fψ, nψ, wfψ, wtψ, oψ⟩
        refine wp_some ⟨hψ, FR_tr fω fψ (by decide) (by decide), fun i => FR_at fψ (by decide) i, fun i i0 i1 => ?_, by omega⟩
        by_cases c : i = ω kR_waits 0
        · rw [c, wfψ, wtψ]
          exact ⟨rQ, rP, Or.inr ⟨(L, f), List.mem_cons_self, hed⟩⟩
        · rw [(oψ i c).1, (oψ i c).2]
          exact wvω i i0 (by omega)
    · have : k = L := by omega
      subst this
      refine wp_ir ⟨hυ, fυ, fun p q p0 p1 q0 q1 => ?_, hwv, hwn⟩
      dsimp only
      rw [hdn p q p0 p1 q0 q1]
      constructor
      · rintro (⟨x, hx, h⟩ | ⟨i, i0, i1, r1, r2⟩)
        · exact ⟨x, List.mem_cons_of_mem _ hx, h⟩
        · exact ⟨_, List.mem_cons_self, i, i0, i1, r1, r2⟩
      · rintro ⟨x, hx, h⟩
        rcases List.mem_cons.mp hx with q1 | q1
        · subst q1; exact Or.inr h
        · exact Or.inl ⟨x, q1, h⟩
  rintro ⟨k, σ8⟩ - ⟨h8, f8, d8, wv8, wn8⟩
  dsimp only at h8 f8 d8 wv8 wn8 ⊢
  have m8 : σ8 kR_triangleMany 0 = τ kR_triangleMany 0 := by rw [FR_at f8 (by decide)]; exact m7
  have c8 : σ8 kR_circleMany 0 = L := by rw [FR_at f8 (by decide)]; exact hL
  have o8 : ∀ i, σ8 kR_onCircle i = f i := fun i => by rw [FR_at f8 (by decide), hfn]
  have f8' : FR GT σ σ8 := FRG f7' f8 (by decide)
  -- its triangles
  refine wp_bd (P := fun s => II s.2 ∧ FR [kR_triangleA, kR_triangleB, kR_triangleC, kR_triangleMany] σ8 s.2 ∧ s.2 kR_triangleMany 0 = τ kR_triangleMany 0 + (L - 2)) ?_ ?_
  · refine wp_whl (fun s => 1 ≤ s.1 ∧ s.1 + 1 ≤ L ∧ II s.2 ∧ FR [kR_triangleA, kR_triangleB, kR_triangleC, kR_triangleMany] σ8 s.2 ∧ s.2 kR_triangleMany 0 = τ kR_triangleMany 0 + (s.1 - 1)) (fun s => (L - s.1).toNat) ⟨Int.le_refl 1, by dsimp only; omega, h8, FR_refl _ _, by dsimp only; omega⟩ ?_
    rintro ⟨k, υ⟩ ⟨k0, k1, hυ, fυ, hm⟩
    dsimp only at k0 k1 hυ fυ hm ⊢
    have cmu : υ kR_circleMany 0 = L := by rw [FR_at fυ (by decide)]; exact c8
    have ocu : ∀ i, υ kR_onCircle i = f i := fun i => by rw [FR_at fυ (by decide)]; exact o8 i
    simp only [cmu]
    rw [w32_of (x := k) (by omega) (by omega), w32_of (x := k + 1) (by omega) (by omega), w32_of (x := L) (by omega) (by omega)]
    refine wp_if (fun gk => ?_) (fun gk => ?_)
    · refine wp_rd (by decide) (by decide) (wp_rd (by omega) (by omega) (wp_rd (by omega) (by omega) ?_))
      rw [ocu, ocu, ocu]
      have r0 := hF 0 (by omega) (by omega)
      have r1 := hF k (by omega) (by omega)
      have r2 := hF (k + 1) (by omega) (by omega)
      refine wp_bd (v_addTriangle hυ r0.1 (by omega) r1.1 (by omega) r2.1 (by omega) (by omega)) ?_
      rintro ω - ⟨hω, fω, mω⟩
      exact wp_il ⟨⟨by dsimp only; omega, by dsimp only; omega, hω, FR_tr fυ fω (by decide) (by decide), by dsimp only; omega⟩, by dsimp only; omega⟩
    · exact wp_ir ⟨hυ, fυ, by dsimp only; omega⟩
  rintro ⟨k', σ9⟩ - ⟨h9, f9, m9⟩
  dsimp only at h9 f9 m9 ⊢
  refine wp_il ⟨⟨h9, FRG f8' f9 (by decide), (L, f) :: cs, codes ++ newcodes σ L f, ?_, hN.1, hN.2, ?_, ?_, ?_, ?_⟩, ?_⟩
  · intro x hx
    rcases List.mem_cons.mp hx with q | q
    · subst q; exact hC
    · exact T1 x q
  · rw [m9, List.length_append, nc_len]; omega
  · intro p q p0 p1 q0 q1
    rw [FR_at f9 (by decide)]; exact d8 p q p0 p1 q0 q1
  · intro i i0 i1
    rw [FR_at f9 (by decide)] at i1
    rw [FR_at f9 (by decide), FR_at f9 (by decide)]
    exact wv8 i i0 i1
  · rw [FR_at f9 (by decide), m9]; omega
  · have : σ9 kR_waits 0 = σ8 kR_waits 0 := FR_at f9 (by decide) 0
    rw [m9, this]
    have := ii_kR_waits h8 0
    omega
end TRF
