section PGI
/-- a ring was told -/
def TO_ (σ τ : SG) (n : Int) : Prop := τ kR_planMany 32 = σ kR_planMany 32 + 1 ∧ τ kR_plan (65536 + σ kR_planMany 32) = n ∧ τ kR_pointMany 32 = σ kR_pointMany 32 + n ∧ 0 ≤ n ∧ ∀ i, i ≠ 65536 + σ kR_planMany 32 → τ kR_plan i = σ kR_plan i
/-- a polygon that is being told -/
def PGi (σ τ : SG) : Prop := σ kR_planMany 32 + 2 ≤ τ kR_planMany 32 ∧ τ kR_plan (65536 + σ kR_planMany 32) = 3 ∧ τ kR_plan (65536 + σ kR_planMany 32 + 1) = τ kR_planMany 32 - (σ kR_planMany 32 + 2) ∧ (∀ k, 0 ≤ k → k < τ kR_planMany 32 - (σ kR_planMany 32 + 2) → 0 ≤ τ kR_plan (65536 + σ kR_planMany 32 + 2 + k)) ∧ τ kR_pointMany 32 = σ kR_pointMany 32 + su_ (τ kR_plan) (65536 + σ kR_planMany 32 + 2) (τ kR_planMany 32 - (σ kR_planMany 32 + 2)).toNat ∧ τ kR_plan 65537 = σ kR_plan 65537 + 1 ∧ ∀ i, i < 65536 + σ kR_planMany 32 → i ≠ 65537 → τ kR_plan i = σ kR_plan i
theorem PGi_go {σ τ υ ω : SG} {n m : Int} (h2 : 2 ≤ σ kR_planMany 32) (h : PGi σ τ) (hm : m = σ kR_planMany 32 + 1) (m1 : υ kR_plan (65536 + m) = τ kR_plan (65536 + m) + 1) (m2 : ∀ i, i ≠ 65536 + m → υ kR_plan i = τ kR_plan i) (f1 : υ kR_planMany 32 = τ kR_planMany 32) (f2 : υ kR_pointMany 32 = τ kR_pointMany 32) (t : TO_ υ ω n) : PGi σ ω := by
  obtain ⟨a, b, c, d, e, f, g⟩ := h
  obtain ⟨t1, t2, t3, t4, t5⟩ := t
  rw [f1] at t1 t2 t5
  have po : ∀ i, i ≠ 65536 + τ kR_planMany 32 → i ≠ 65536 + m → ω kR_plan i = τ kR_plan i := fun i x y => by rw [t5 i x, m2 i y]
  have ec : ω kR_plan (65536 + σ kR_planMany 32 + 1) = τ kR_plan (65536 + σ kR_planMany 32 + 1) + 1 := by
    rw [t5 _ (by omega), show 65536 + σ kR_planMany 32 + 1 = 65536 + m by omega, m1]
  refine ⟨by omega, by rw [po _ (by omega) (by omega)]; exact b, by omega, fun k x y => ?_, ?_, by rw [po _ (by omega) (by omega)]; exact f, fun i x y => by rw [po i (by omega) (by omega)]; exact g i x y⟩
  · by_cases q : k = τ kR_planMany 32 - (σ kR_planMany 32 + 2)
    · rw [show 65536 + σ kR_planMany 32 + 2 + k = 65536 + τ kR_planMany 32 by omega, t2]; exact t4
    · rw [po _ (by omega) (by omega)]; exact d k x (by omega)
  · rw [show ω kR_planMany 32 - (σ kR_planMany 32 + 2) = τ kR_planMany 32 - (σ kR_planMany 32 + 2) + 1 by omega, su_i (by omega), show 65536 + σ kR_planMany 32 + 2 + (τ kR_planMany 32 - (σ kR_planMany 32 + 2)) = 65536 + τ kR_planMany 32 by omega, t2, su_cg (pm := τ kR_plan) (fun i x y => po i (by omega) (by omega))]
    omega
theorem PGi_end {σ τ : SG} (h2 : 2 ≤ σ kR_planMany 32) (hm : τ kR_planMany 32 ≤ 2048) (h : PGi σ τ) : PGt σ τ := by
  obtain ⟨a, b, c, d, e, f, g⟩ := h
  have l3 := el_3 b
  have e3 : eP (τ kR_plan) (65536 + σ kR_planMany 32) = su_ (τ kR_plan) (65536 + σ kR_planMany 32 + 2) (τ kR_plan (65536 + σ kR_planMany 32 + 1)).toNat := by
    unfold eP; rw [if_neg (by omega), if_pos b]
  refine ⟨⟨by omega, by omega, ⟨by omega, by omega⟩, fun z => by omega, fun _ k x y => d k x (by omega)⟩, b, by omega, by rw [e3, c]; exact e, f, g⟩
theorem PGs_0 {σ : SG} (h1 : σ kR_planMany 32 = 2) (h2 : σ kR_plan 65536 = 6) (h3 : σ kR_plan 65537 = 0) (h4 : σ kR_pointMany 32 = 0) : PGs σ := by
  refine ⟨by omega, h2, by omega, ?_, ?_⟩
  · rw [h3]; show (65538 : Int) = _; omega
  · rw [h3]; exact ⟨by omega, h4⟩
end PGI
