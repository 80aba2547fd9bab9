section SNV
def EA (τ : SG) (a b : Int) : Prop := lx_ (τ kR_corner (τ kR_outFrom a)) (τ kR_corner (τ kR_outFrom a + 1)) (τ kR_corner (τ kR_outFrom b)) (τ kR_corner (τ kR_outFrom b + 1))
/-- a ring of a shell (-1: a shell) -/
def RO (τ : SG) (shell k : Int) : Prop := (shell = -1 ∧ 0 < w64 (τ kR_outArea k)) ∨ (shell ≠ -1 ∧ w64 (τ kR_outArea k) < 0 ∧ τ kR_outShell k = shell)
theorem v_isEarlier {τ : SG} {a b : Int} (hτ : II τ) (oc : OC τ) (hc : τ kR_corners 0 ≤ 16384) (a0 : 0 ≤ a) (a1 : a < τ kR_outs 0) (b0 : 0 ≤ b) (b1 : b < τ kR_outs 0) : wp_ (fR_isEarlier τ a b) (fun v => v = true ↔ EA τ a b) := by
  unfold fR_isEarlier EA lx_
  have bo := ii_kR_outs hτ 0
  obtain ⟨r1, r2, r3, -⟩ := oc a a0 a1
  obtain ⟨s1, s2, s3, -⟩ := oc b b0 b1
  have cv : ∀ j, 0 ≤ τ kR_corner j ∧ τ kR_corner j ≤ 8191 := ii_kR_corner hτ
  rw [w32_of (x := a) (by omega) (by omega), w32_of (x := b) (by omega) (by omega)]
  refine wp_rd a0 (by omega) (wp_rd b0 (by omega) ?_)
  generalize τ kR_outFrom a = A at *
  generalize τ kR_outFrom b = B at *
  rw [w32_of (x := A) (by omega) (by omega), w32_of (x := B) (by omega) (by omega), w32_of (x := A + 1) (by omega) (by omega), w32_of (x := B + 1) (by omega) (by omega)]
  have c1 := cv A
  have c2 := cv B
  have c3 := cv (A + 1)
  have c4 := cv (B + 1)
  refine wp_bd (P := fun v => v = true ↔ _) ?_ (fun v _ hv => wp_some hv)
  refine wp_rd (by omega) (by omega) (wp_rd (by omega) (by omega) ?_)
  rw [w32_of (x := τ kR_corner A) (by omega) (by omega), w32_of (x := τ kR_corner B) (by omega) (by omega)]
  refine wp_if (fun g => wp_some ⟨fun _ => Or.inl g, fun _ => rfl⟩) (fun g => ?_)
  refine wp_rd (by omega) (by omega) (wp_rd (by omega) (by omega) ?_)
  rw [w32_of (x := τ kR_corner A) (by omega) (by omega), w32_of (x := τ kR_corner B) (by omega) (by omega)]
  refine wp_if (fun g2 => ?_) (fun g2 => wp_some ⟨fun q => (by cases q), fun q => by omega⟩)
  refine wp_rd (by omega) (by omega) (wp_rd (by omega) (by omega) ?_)
  rw [w32_of (x := τ kR_corner (A + 1)) (by omega) (by omega), w32_of (x := τ kR_corner (B + 1)) (by omega) (by omega)]
  exact wp_if (fun g3 => wp_some ⟨fun _ => Or.inr ⟨g2, g3⟩, fun _ => rfl⟩) (fun g3 => wp_some ⟨fun q => (by cases q), fun q => by omega⟩)
theorem v_nextOut {τ : SG} {shell behind : Int} (hτ : II τ) (oc : OC τ) (hc : τ kR_corners 0 ≤ 16384) (s0 : -1 ≤ shell) (s1 : shell < τ kR_outs 0) (b0 : -1 ≤ behind) (b1 : behind < τ kR_outs 0) : wp_ (fR_nextOut τ shell behind) (fun v => -1 ≤ v ∧ v < τ kR_outs 0 ∧ (v ≠ -1 → RO τ shell v ∧ (behind ≠ -1 → EA τ behind v))) := by
  unfold fR_nextOut
  have bo := ii_kR_outs hτ 0
  have bs := ii_kR_outShell hτ
  rw [w32_of (x := shell) (by omega) (by omega), w32_of (x := behind) (by omega) (by omega)]
  refine wp_bd (P := fun s => -1 ≤ s.1 ∧ s.1 < τ kR_outs 0 ∧ (s.1 ≠ -1 → RO τ shell s.1 ∧ (behind ≠ -1 → EA τ behind s.1))) ?_ (fun s _ hs => wp_some hs)
  refine wp_whl (fun s => 0 ≤ s.2 ∧ s.2 ≤ τ kR_outs 0 ∧ -1 ≤ s.1 ∧ s.1 < τ kR_outs 0 ∧ (s.1 ≠ -1 → RO τ shell s.1 ∧ (behind ≠ -1 → EA τ behind s.1))) (fun s => (τ kR_outs 0 - s.2).toNat) ⟨Int.le_refl 0, bo.1, Int.le_refl _, by dsimp only; omega, fun q => absurd rfl q⟩ ?_
  rintro ⟨best, k⟩ ⟨k0, k1, t0, t1, inv⟩
  dsimp only at k0 k1 t0 t1 inv ⊢
  rw [w32_of (x := k) (by omega) (by omega), w32_of (x := τ kR_outs 0) (by omega) (by omega), w32_of (x := best) (by omega) (by omega)]
  refine wp_if (fun g => ?_) (fun g => wp_ir ⟨t0, t1, inv⟩)
  have next : ∀ v, (v = best ∨ (v = k ∧ RO τ shell k ∧ (behind ≠ -1 → EA τ behind k))) → ((0 ≤ k + 1 ∧ k + 1 ≤ τ kR_outs 0 ∧ -1 ≤ v ∧ v < τ kR_outs 0 ∧ (v ≠ -1 → RO τ shell v ∧ (behind ≠ -1 → EA τ behind v))) ∧ (τ kR_outs 0 - (k + 1)).toNat < (τ kR_outs 0 - k).toNat) := by
    rintro v (h | ⟨h, h2, h3⟩)
    · rw [h]; exact ⟨⟨by omega, by omega, t0, t1, inv⟩, by omega⟩
    · rw [h]; exact ⟨⟨by omega, by omega, by omega, by omega, fun _ => ⟨h2, h3⟩⟩, by omega⟩
  refine wp_bd (P := fun b => b = true → RO τ shell k) ?_ ?_
  · refine wp_if (fun gs => ?_) (fun gs => ?_)
    · refine wp_bd (P := fun b => b = true → RO τ shell k) ?_ (fun v _ hv => wp_some hv)
      refine wp_rd k0 (by omega) ?_
      exact wp_if (fun ga => wp_some (fun _ => Or.inl ⟨gs, ga⟩)) (fun _ => wp_some (fun q => (by cases q)))
    · refine wp_bd (P := fun b => b = true → RO τ shell k) ?_ (fun v _ hv => wp_some hv)
      refine wp_rd k0 (by omega) ?_
      refine wp_if (fun ga => ?_) (fun _ => wp_some (fun q => (by cases q)))
      refine wp_rd k0 (by omega) ?_
      have bk := bs k
      rw [w32_of (x := τ kR_outShell k) (by omega) (by omega)]
      exact wp_if (fun gb => wp_some (fun _ => Or.inr ⟨gs, ga, gb⟩)) (fun _ => wp_some (fun q => (by cases q)))
  rintro is - his
  refine wp_if (fun gi => ?_) (fun _ => wp_il (next best (Or.inl rfl)))
  have pick : (behind ≠ -1 → EA τ behind k) → wp_ (bd_ (α := Int) (if best = -1 then some k else bd_ (fR_isEarlier τ k best) fun x => if x = true then some k else some best) fun b => some (Sum.inl (b, k + 1) : (Int × Int) ⊕ (Int × Int))) (fun o => (∀ s', o = Sum.inl s' → (0 ≤ s'.2 ∧ s'.2 ≤ τ kR_outs 0 ∧ -1 ≤ s'.1 ∧ s'.1 < τ kR_outs 0 ∧ (s'.1 ≠ -1 → RO τ shell s'.1 ∧ (behind ≠ -1 → EA τ behind s'.1))) ∧ (τ kR_outs 0 - s'.2).toNat < (τ kR_outs 0 - k).toNat) ∧ ∀ r, o = Sum.inr r → -1 ≤ r.1 ∧ r.1 < τ kR_outs 0 ∧ (r.1 ≠ -1 → RO τ shell r.1 ∧ (behind ≠ -1 → EA τ behind r.1))) := by
    intro hb
    refine wp_bd (P := fun v => v = best ∨ (v = k ∧ RO τ shell k ∧ (behind ≠ -1 → EA τ behind k))) ?_ (fun v _ hv => wp_il (next v hv))
    refine wp_if (fun _ => wp_some (Or.inr ⟨rfl, his gi, hb⟩)) (fun gn => ?_)
    refine wp_bd (v_isEarlier hτ oc hc k0 g (by omega) t1) ?_
    rintro x - -
    exact wp_if (fun _ => wp_some (Or.inr ⟨rfl, his gi, hb⟩)) (fun _ => wp_some (Or.inl rfl))
  refine wp_if (fun gb => ?_) (fun gb => pick (fun q => absurd q gb))
  refine wp_bd (v_isEarlier hτ oc hc (by omega) b1 k0 g) ?_
  rintro x - hx
  exact wp_if (fun gx => pick (fun _ => hx.mp gx)) (fun _ => wp_il (next best (Or.inl rfl)))
end SNV
