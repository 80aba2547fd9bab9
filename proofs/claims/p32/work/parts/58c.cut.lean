section CUT
def CUg (σ : SG) (j : Int) : Prop := (-9000000000000000000 ≤ σ kR_partNum j ∧ σ kR_partNum j ≤ 9000000000000000000) ∧ (0 < σ kR_partDen j ∧ σ kR_partDen j ≤ 9000000000000000000)
/-- all places of the cuts but k hold good fractions -/
def CUx (σ : SG) (m k : Int) : Prop := ∀ j, 0 ≤ j → j ≤ m → j ≠ k → CUg σ j
theorem CUTs_f {σ τ : SG} {ms : List Nat} (f : FR ms σ τ) (h : dj ms [kR_partNum, kR_partDen, kR_cutsMany] = true) (g : CUTs σ) : CUTs τ := by
  unfold CUTs
  rw [FR_dj f h (c := kR_partNum) (by decide), FR_dj f h (c := kR_partDen) (by decide), FR_dj f h (c := kR_cutsMany) (by decide)]
  exact g
theorem ND_f {σ τ : SG} {ms : List Nat} (f : FR ms σ τ) (h : dj ms [kR_segments, kR_sx, kR_sy, kR_ex, kR_ey] = true) (g : ND σ) : ND τ := by
  unfold ND
  rw [FR_dj f h (c := kR_segments) (by decide), FR_dj f h (c := kR_sx) (by decide), FR_dj f h (c := kR_sy) (by decide), FR_dj f h (c := kR_ex) (by decide), FR_dj f h (c := kR_ey) (by decide)]
  exact g
theorem CUx_0 {σ : SG} (g : CUTs σ) : CUx σ (σ kR_cutsMany 0) (σ kR_cutsMany 0) := fun j a b c => g j a (by omega)
theorem CUx_mv {σ τ υ : SG} {m k : Int} (e1 : τ = sg σ kR_partNum k (σ kR_partNum (k - 1))) (e2 : υ = sg τ kR_partDen k (τ kR_partDen (k - 1))) (h : CUx σ m k) (h0 : 0 < k) (h1 : k ≤ m) : CUx υ m (k - 1) := by
  intro j a b c
  have ed : ∀ i, υ kR_partDen i = if i = k then σ kR_partDen (k - 1) else σ kR_partDen i := fun i => by
    rw [e2]
    by_cases z : i = k
    · rw [if_pos z, z, sg_at, e1, sg_nc (by decide)]
    · rw [if_neg z, sg_ni z, e1, sg_nc (by decide)]
  have en : ∀ i, υ kR_partNum i = if i = k then σ kR_partNum (k - 1) else σ kR_partNum i := fun i => by
    rw [e2, sg_nc (by decide), e1]
    by_cases z : i = k
    · rw [if_pos z, z, sg_at]
    · rw [if_neg z, sg_ni z]
  unfold CUg
  rw [ed, en]
  by_cases z : j = k
  · rw [if_pos z, if_pos z]; exact h (k - 1) (by omega) (by omega) (by omega)
  · rw [if_neg z, if_neg z]; exact h j a b z
theorem CUx_end {σ τ υ φ : SG} {m k a b : Int} (e1 : τ = sg σ kR_partNum k a) (e2 : υ = sg τ kR_partDen k b) (e3 : φ = sg υ kR_cutsMany 0 (υ kR_cutsMany 0 + 1)) (hm : σ kR_cutsMany 0 = m) (h : CUx σ m k) (ha : -9000000000000000000 ≤ a ∧ a ≤ 9000000000000000000) (hb : 0 < b ∧ b ≤ 9000000000000000000) : CUTs φ := by
  have ed : ∀ i, φ kR_partDen i = if i = k then b else σ kR_partDen i := fun i => by
    rw [e3, sg_nc (by decide), e2]
    by_cases z : i = k
    · rw [if_pos z, z, sg_at]
    · rw [if_neg z, sg_ni z, e1, sg_nc (by decide)]
  have en : ∀ i, φ kR_partNum i = if i = k then a else σ kR_partNum i := fun i => by
    rw [e3, sg_nc (by decide), e2, sg_nc (by decide), e1]
    by_cases z : i = k
    · rw [if_pos z, z, sg_at]
    · rw [if_neg z, sg_ni z]
  have em : φ kR_cutsMany 0 = m + 1 := by
    rw [e3, sg_at, e2, sg_nc (by decide), e1, sg_nc (by decide), hm]
  intro j j0 j1
  rw [em] at j1
  rw [ed, en]
  by_cases z : j = k
  · rw [if_pos z, if_pos z]; exact ⟨ha, hb⟩
  · rw [if_neg z, if_neg z]; exact h j j0 (by omega) z
theorem v_meetC {σ : SG} {i_0 : Int} {j_0 : Int} (hσ : II σ) (qi_0 : 0 ≤ i_0 ∧ i_0 ≤ 4199) (qj_0 : 0 ≤ j_0 ∧ j_0 ≤ 4199) : wp_ (fR_meet σ i_0 j_0) (fun r => (0 ≤ r.1 ∧ r.1 ≤ 2) ∧ II r.2 ∧ FR [kR_isInner, kR_meetX, kR_meetY] σ r.2 ∧ (r.1 = 1 → nz (r.2 kR_isInner 0) = true → ¬ fR_cross (σ kR_ex i_0 - σ kR_sx i_0) (σ kR_ey i_0 - σ kR_sy i_0) (σ kR_ex j_0 - σ kR_sx j_0) (σ kR_ey j_0 - σ kR_sy j_0) = 0)) := by
  refine wp_mono (wp_and (s_R_meet hσ qi_0 qj_0) (v_meetI hσ qi_0.1 qi_0.2 qj_0.1 qj_0.2)) ?_
  rintro r ⟨⟨a, b, c⟩, d⟩
  refine ⟨a, b, c, fun e f => ?_⟩
  have g := (d.mp ⟨e, f⟩).2
  have hden : fR_cross (σ kR_ex i_0 - σ kR_sx i_0) (σ kR_ey i_0 - σ kR_sy i_0) (σ kR_ex j_0 - σ kR_sx j_0) (σ kR_ey j_0 - σ kR_sy j_0) = de_ σ i_0 j_0 := by unfold fR_cross de_ TS oi_; grind
  rw [hden]; unfold de_; omega
end CUT
