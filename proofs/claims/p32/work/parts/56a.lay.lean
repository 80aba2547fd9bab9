section LYA
abbrev SLs : List Nat := [kR_ex, kR_ey, kR_numberOf, kR_ringOf, kR_segments, kR_shapeOf, kR_sx, kR_sy]
/-- one more segment -/
def SA (σ τ : SG) (f t r n s : Int) : Prop := τ kR_segments 0 = σ kR_segments 0 + 1 ∧ (τ kR_sx (σ kR_segments 0) = σ kR_xs f ∧ τ kR_sy (σ kR_segments 0) = σ kR_ys f ∧ τ kR_ex (σ kR_segments 0) = σ kR_xs t ∧ τ kR_ey (σ kR_segments 0) = σ kR_ys t ∧ τ kR_ringOf (σ kR_segments 0) = r ∧ τ kR_numberOf (σ kR_segments 0) = n ∧ τ kR_shapeOf (σ kR_segments 0) = s) ∧ ∀ j, j ≠ σ kR_segments 0 → τ kR_sx j = σ kR_sx j ∧ τ kR_sy j = σ kR_sy j ∧ τ kR_ex j = σ kR_ex j ∧ τ kR_ey j = σ kR_ey j ∧ τ kR_ringOf j = σ kR_ringOf j ∧ τ kR_numberOf j = σ kR_numberOf j ∧ τ kR_shapeOf j = σ kR_shapeOf j
theorem v_segment {σ : SG} {f t r n s : Int} (hσ : II σ) (f0 : 0 ≤ f) (f1 : f < 67584) (t0 : 0 ≤ t) (t1 : t < 67584) (r0 : 0 ≤ r) (r1 : r ≤ 2048) (n0 : 0 ≤ n) (n1 : n ≤ 2048) (s0 : 0 ≤ s) (s1 : s ≤ 1) (hs : σ kR_segments 0 ≤ 4199) : wp_ (fR_segment σ f t r n s) (fun τ => II τ ∧ FR [kR_ex, kR_ey, kR_numberOf, kR_ringOf, kR_segments, kR_shapeOf, kR_sx, kR_sy] σ τ ∧ SA σ τ f t r n s) := by
  unfold fR_segment
  have bs := ii_kR_segments hσ 0
  have bx := ii_kR_xs hσ
  have by_ := ii_kR_ys hσ
  have bxf := bx f
  have bxt := bx t
  have byf := by_ f
  have byt := by_ t
  generalize hM : σ kR_segments 0 = M at *
  rw [w32_of (x := f) (by omega) (by omega), w32_of (x := t) (by omega) (by omega), w32_of (x := M) (by omega) (by omega)]
  refine wp_rd f0 f1 ?_
  rw [w32_of (x := σ kR_xs f) (by omega) (by omega)]
  refine wp_waI hσ b_kR_sx (by omega) (by omega) bxf (fun σ1 h1 e1 => ?_)
  have y1 : σ1 kR_ys f = σ kR_ys f := by rw [e1, sg_nc (by decide)]
  have m1 : σ1 kR_segments 0 = M := by rw [e1, sg_nc (by decide)]; exact hM
  refine wp_rd f0 f1 ?_
  rw [y1, m1, w32_of (x := M) (by omega) (by omega), w32_of (x := σ kR_ys f) (by omega) (by omega)]
  refine wp_waI h1 b_kR_sy (by omega) (by omega) byf (fun σ2 h2 e2 => ?_)
  have y2 : σ2 kR_xs t = σ kR_xs t := by rw [e2, sg_nc (by decide), e1, sg_nc (by decide)]
  have m2 : σ2 kR_segments 0 = M := by rw [e2, sg_nc (by decide)]; exact m1
  refine wp_rd t0 t1 ?_
  rw [y2, m2, w32_of (x := M) (by omega) (by omega), w32_of (x := σ kR_xs t) (by omega) (by omega)]
  refine wp_waI h2 b_kR_ex (by omega) (by omega) bxt (fun σ3 h3 e3 => ?_)
  have y3 : σ3 kR_ys t = σ kR_ys t := by rw [e3, sg_nc (by decide), e2, sg_nc (by decide), e1, sg_nc (by decide)]
  have m3 : σ3 kR_segments 0 = M := by rw [e3, sg_nc (by decide)]; exact m2
  refine wp_rd t0 t1 ?_
  rw [y3, m3, w32_of (x := M) (by omega) (by omega), w32_of (x := σ kR_ys t) (by omega) (by omega)]
  refine wp_waI h3 b_kR_ey (by omega) (by omega) byt (fun σ4 h4 e4 => ?_)
  have m4 : σ4 kR_segments 0 = M := by rw [e4, sg_nc (by decide)]; exact m3
  rw [m4, w32_of (x := M) (by omega) (by omega)]
  refine wp_waI h4 b_kR_ringOf (by omega) (by omega) (by omega) (fun σ5 h5 e5 => ?_)
  have m5 : σ5 kR_segments 0 = M := by rw [e5, sg_nc (by decide)]; exact m4
  rw [m5, w32_of (x := M) (by omega) (by omega)]
  refine wp_waI h5 b_kR_numberOf (by omega) (by omega) (by omega) (fun σ6 h6 e6 => ?_)
  have m6 : σ6 kR_segments 0 = M := by rw [e6, sg_nc (by decide)]; exact m5
  rw [m6, w32_of (x := M) (by omega) (by omega)]
  refine wp_waI h6 b_kR_shapeOf (by omega) (by omega) (by omega) (fun σ7 h7 e7 => ?_)
  have m7 : σ7 kR_segments 0 = M := by rw [e7, sg_nc (by decide)]; exact m6
  rw [m7]
  refine wp_wfI h7 b_kR_segments (by omega) (fun σ8 h8 e8 => wp_some ?_)
  have g1 : FR SLs σ σ1 := FR_le (FR_sg e1) (by decide)
  have g2 : FR SLs σ σ2 := FR_tr g1 (FR_sg e2) (by decide) (by decide)
  have g3 : FR SLs σ σ3 := FR_tr g2 (FR_sg e3) (by decide) (by decide)
  have g4 : FR SLs σ σ4 := FR_tr g3 (FR_sg e4) (by decide) (by decide)
  have g5 : FR SLs σ σ5 := FR_tr g4 (FR_sg e5) (by decide) (by decide)
  have g6 : FR SLs σ σ6 := FR_tr g5 (FR_sg e6) (by decide) (by decide)
  have g7 : FR SLs σ σ7 := FR_tr g6 (FR_sg e7) (by decide) (by decide)
  have c1 : ∀ j, σ8 kR_sx j = σ1 kR_sx j := fun j => by rw [e8, sg_nc (by decide), e7, sg_nc (by decide), e6, sg_nc (by decide), e5, sg_nc (by decide), e4, sg_nc (by decide), e3, sg_nc (by decide), e2, sg_nc (by decide)]
  have c2 : ∀ j, σ8 kR_sy j = σ2 kR_sy j := fun j => by rw [e8, sg_nc (by decide), e7, sg_nc (by decide), e6, sg_nc (by decide), e5, sg_nc (by decide), e4, sg_nc (by decide), e3, sg_nc (by decide)]
  have c3 : ∀ j, σ8 kR_ex j = σ3 kR_ex j := fun j => by rw [e8, sg_nc (by decide), e7, sg_nc (by decide), e6, sg_nc (by decide), e5, sg_nc (by decide), e4, sg_nc (by decide)]
  have c4 : ∀ j, σ8 kR_ey j = σ4 kR_ey j := fun j => by rw [e8, sg_nc (by decide), e7, sg_nc (by decide), e6, sg_nc (by decide), e5, sg_nc (by decide)]
  have c5 : ∀ j, σ8 kR_ringOf j = σ5 kR_ringOf j := fun j => by rw [e8, sg_nc (by decide), e7, sg_nc (by decide), e6, sg_nc (by decide)]
  have c6 : ∀ j, σ8 kR_numberOf j = σ6 kR_numberOf j := fun j => by rw [e8, sg_nc (by decide), e7, sg_nc (by decide)]
  have c7 : ∀ j, σ8 kR_shapeOf j = σ7 kR_shapeOf j := fun j => by rw [e8, sg_nc (by decide)]
  refine ⟨h8, FR_tr g7 (FR_sg e8) (by decide) (by decide), ?_⟩
  unfold SA
  rw [hM]
  refine ⟨sg_val e8, ⟨?_, ?_, ?_, ?_, ?_, ?_, ?_⟩, fun j hj => ⟨?_, ?_, ?_, ?_, ?_, ?_, ?_⟩⟩
  · rw [c1, e1, sg_at]
  · rw [c2, e2, sg_at]
  · rw [c3, e3, sg_at]
  · rw [c4, e4, sg_at]
  · rw [c5, e5, sg_at]
  · rw [c6, e6, sg_at]
  · rw [c7, e7, sg_at]
  · rw [c1, e1, sg_ni hj]
  · rw [c2, e2, sg_ni hj, e1, sg_nc (by decide)]
  · rw [c3, e3, sg_ni hj, e2, sg_nc (by decide), e1, sg_nc (by decide)]
  · rw [c4, e4, sg_ni hj, e3, sg_nc (by decide), e2, sg_nc (by decide), e1, sg_nc (by decide)]
  · rw [c5, e5, sg_ni hj, e4, sg_nc (by decide), e3, sg_nc (by decide), e2, sg_nc (by decide), e1, sg_nc (by decide)]
  · rw [c6, e6, sg_ni hj, e5, sg_nc (by decide), e4, sg_nc (by decide), e3, sg_nc (by decide), e2, sg_nc (by decide), e1, sg_nc (by decide)]
  · rw [c7, e7, sg_ni hj, e6, sg_nc (by decide), e5, sg_nc (by decide), e4, sg_nc (by decide), e3, sg_nc (by decide), e2, sg_nc (by decide), e1, sg_nc (by decide)]
theorem v_isSame {τ : SG} {p q : Int} (hτ : II τ) (p0 : 0 ≤ p) (p1 : p < 67584) (q0 : 0 ≤ q) (q1 : q < 67584) : wp_ (fR_isSame τ p q) (fun v => v = true ↔ (τ kR_xs p = τ kR_xs q ∧ τ kR_ys p = τ kR_ys q)) := by
  unfold fR_isSame
  have a1 := ii_kR_xs hτ p
  have a2 := ii_kR_xs hτ q
  have a3 := ii_kR_ys hτ p
  have a4 := ii_kR_ys hτ q
  rw [w32_of (x := p) (by omega) (by omega), w32_of (x := q) (by omega) (by omega)]
  refine wp_bd (P := fun v => v = true ↔ (τ kR_xs p = τ kR_xs q ∧ τ kR_ys p = τ kR_ys q)) ?_ (fun v _ hv => wp_some hv)
  refine wp_rd p0 p1 (wp_rd q0 q1 ?_)
  rw [w32_of (x := τ kR_xs p) (by omega) (by omega), w32_of (x := τ kR_xs q) (by omega) (by omega)]
  refine wp_if (fun g => ?_) (fun g => wp_some ⟨fun z => (by cases z), fun z => absurd z.1 g⟩)
  refine wp_rd p0 p1 (wp_rd q0 q1 ?_)
  rw [w32_of (x := τ kR_ys p) (by omega) (by omega), w32_of (x := τ kR_ys q) (by omega) (by omega)]
  exact wp_if (fun g2 => wp_some ⟨fun _ => ⟨g, g2⟩, fun _ => rfl⟩) (fun g2 => wp_some ⟨fun z => (by cases z), fun z => absurd z.2 g2⟩)
end LYA
