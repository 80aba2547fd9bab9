section GOOD
/-- every call of the law ends, answers true and keeps the invariant -/
theorem step_ok {σ : SG} {xs : Nat → Int32} {L k : Nat} {i : Int} (hσ : INV σ) (hk : k < 32) (h1 : 1 ≤ i) (h2 : i + 5 < (L : Int)) (hL : L ≤ 3073) : wp_ (fS k σ xs L i) (fun r => r.1 = true ∧ INV r.2) := by
  match k, hk with
  | 0, _ => exact step_0 hσ h1 h2 hL
  | 1, _ => exact step_1 hσ h1 h2 hL
  | 2, _ => exact step_2 (xs := xs) hσ h1 h2 hL
  | 3, _ => exact step_3 hσ h1 h2 hL
  | 4, _ => exact step_4 hσ h1 h2 hL
  | 5, _ => exact step_5 hσ h1 h2 hL
  | 6, _ => exact step_6 hσ h1 h2 hL
  | 7, _ => exact step_7 hσ h1 h2 hL
  | 8, _ => exact step_8 hσ h1 h2 hL
  | 9, _ => exact step_9 hσ h1 h2 hL
  | 10, _ => exact step_10 hσ h1 h2 hL
  | 11, _ => exact step_11 hσ h1 h2 hL
  | 12, _ => exact step_12 hσ h1 h2 hL
  | 13, _ => exact step_13 hσ h1 h2 hL
  | 14, _ => exact step_14 hσ h1 h2 hL
  | 15, _ => exact step_15 hσ h1 h2 hL
  | 16, _ => exact step_16 hσ h1 h2 hL
  | 17, _ => exact step_17 hσ h1 h2 hL
  | 18, _ => exact step_18 hσ h1 h2 hL
  | 19, _ => exact step_19 hσ h1 h2 hL
  | 20, _ => exact step_20 hσ h1 h2 hL
  | 21, _ => exact step_21 hσ h1 h2 hL
  | 22, _ => exact step_22 hσ h1 h2 hL
  | 23, _ => exact step_23 hσ h1 h2 hL
  | 24, _ => exact step_24 hσ h1 h2 hL
  | 25, _ => exact step_25 hσ h1 h2 hL
  | 26, _ => exact step_26 hσ h1 h2 hL
  | 27, _ => exact step_27 hσ h1 h2 hL
  | 28, _ => exact step_28 hσ h1 h2 hL
  | 29, _ => exact step_cmp hσ h1 h2 hL
  | 30, _ => exact step_30 hσ h1 h2 hL
  | 31, _ => exact step_31 hσ h1 h2 hL
  | (n + 32), h => exact absurd h (by omega)
theorem en_fine0 (dg : Int32) (L : Nat) (xs : Nat → Int32) (hL : L ≤ 3073) : ∃ Inv : Nat → SG → Prop, Inv 0 (sg0 dg) ∧ ∀ (n k : Nat) (σ : SG) (i : Int), k < 32 → n < 512 → Inv n σ → 1 ≤ i → i + 5 < (L : Int) → ∃ σ', fS k σ xs L i = some (true, σ') ∧ Inv (n + 1) σ' := by
  refine ⟨fun _ => INV, INV_0 dg, fun n k σ i hk _ hI h1 h2 => ?_⟩
  obtain ⟨⟨b, τ⟩, e, hb, hτ⟩ := step_ok (xs := xs) hI hk h1 h2 hL
  have hb : b = true := hb
  subst hb
  exact ⟨τ, e, hτ⟩
end GOOD
