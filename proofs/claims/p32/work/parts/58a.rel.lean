section REL
/-- registers 0 and 1 hold a place on a segment: numerator, denominator -/
def R01 (σ : SG) : Prop := (∃ v, RG σ 0 v 6) ∧ (∃ v, RG σ 1 v 6)
theorem R01_kn {σ τ : SG} {ts : List Int} (k : KN ts σ τ) (h0 : ∀ t ∈ ts, (0 : Int) ≠ t) (h1 : ∀ t ∈ ts, (1 : Int) ≠ t) (h : R01 σ) : R01 τ := by
  obtain ⟨⟨v, a⟩, ⟨w, b⟩⟩ := h
  exact ⟨⟨v, k 0 v 6 (by decide) (by decide) h0 a⟩, ⟨w, k 1 w 6 (by decide) (by decide) h1 b⟩⟩
theorem R01_f {σ τ : SG} {ms : List Nat} (f : FR ms σ τ) (h : dj ms [kR_limbs, kR_sign, kR_w] = true) (g : R01 σ) : R01 τ := by
  obtain ⟨⟨v, a⟩, ⟨w, b⟩⟩ := g
  exact ⟨⟨v, RG_f f h a⟩, ⟨w, RG_f f h b⟩⟩
/-- no segment is a point -/
def ND (σ : SG) : Prop := ∀ i, 0 ≤ i → i < σ kR_segments 0 → ¬ (σ kR_sx i = σ kR_ex i ∧ σ kR_sy i = σ kR_ey i)
theorem ND_seg {σ τ : SG} {f t r n s : Int} (sa : SA σ τ f t r n s) (hn : ND σ) (hd : ¬ (σ kR_xs f = σ kR_xs t ∧ σ kR_ys f = σ kR_ys t)) : ND τ := by
  obtain ⟨a, ⟨b1, b2, b3, b4, b5, b6, b7⟩, c⟩ := sa
  intro i i0 i1
  by_cases q : i = σ kR_segments 0
  · rw [q, b1, b2, b3, b4]; exact hd
  · obtain ⟨c1, c2, c3, c4, _⟩ := c i q
    rw [c1, c2, c3, c4]
    exact hn i i0 (by omega)
/-- fractions of cuts: denominators positive, both within a long -/
def CUTs (σ : SG) : Prop := ∀ k, 0 ≤ k → k < σ kR_cutsMany 0 → (-9000000000000000000 ≤ σ kR_partNum k ∧ σ kR_partNum k ≤ 9000000000000000000) ∧ (0 < σ kR_partDen k ∧ σ kR_partDen k ≤ 9000000000000000000)
end REL
