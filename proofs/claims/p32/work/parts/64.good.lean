section GOOD
theorem wp_pq {o : Option (Bool × SG)} {σ : SG} (hp : PSq σ) (h : wp_ o (fun r => r.1 = true ∧ INK σ r.2)) : wp_ o (fun r => r.1 = true ∧ INV r.2 ∧ PSq r.2) := wp_mono h (fun r hr => ⟨hr.1, INK_v hr.2, PQ_k hp hr.2.2.2.2.2⟩)
/-- every call of the law ends, answers true and keeps the invariant -/
theorem step_ok {σ : SG} {xs : Nat → Int32} {L k : Nat} {i : Int} (hσ : INV σ) (hp : PSq σ) (hk : k < 32) (h1 : 1 ≤ i) (h2 : i + 5 < (L : Int)) (hL : L ≤ 3073) : wp_ (fS k σ xs L i) (fun r => r.1 = true ∧ INV r.2 ∧ PSq r.2) := by
  match k, hk with
  | 0, _ => exact wp_pq hp (step_0 (INK_i hσ) h1 h2 hL)
  | 1, _ => exact wp_pq hp (step_1 (INK_i hσ) h1 h2 hL)
  | 2, _ => exact wp_pq hp (step_2 (xs := xs) (INK_i hσ) h1 h2 hL)
  | 3, _ => exact wp_pq hp (step_3 (INK_i hσ) h1 h2 hL)
  | 4, _ => exact wp_pq hp (step_4 (INK_i hσ) h1 h2 hL)
  | 5, _ => exact wp_pq hp (step_5 (INK_i hσ) h1 h2 hL)
  | 6, _ => exact wp_pq hp (step_6 (INK_i hσ) h1 h2 hL)
  | 7, _ => exact wp_pq hp (step_7 (INK_i hσ) h1 h2 hL)
  | 8, _ => exact wp_pq hp (step_8 (INK_i hσ) h1 h2 hL)
  | 9, _ => exact wp_pq hp (step_9 (INK_i hσ) h1 h2 hL)
  | 10, _ => exact wp_pq hp (step_10 (INK_i hσ) h1 h2 hL)
  | 11, _ => exact wp_pq hp (step_11 (INK_i hσ) h1 h2 hL)
  | 12, _ => exact wp_pq hp (step_12 (INK_i hσ) h1 h2 hL)
  | 13, _ => exact wp_pq hp (step_13 (INK_i hσ) h1 h2 hL)
  | 14, _ => exact wp_pq hp (step_14 (INK_i hσ) h1 h2 hL)
  | 15, _ => exact wp_pq hp (step_15 (INK_i hσ) h1 h2 hL)
  | 16, _ => exact wp_pq hp (step_16 (INK_i hσ) h1 h2 hL)
  | 17, _ => exact wp_pq hp (step_17 (INK_i hσ) h1 h2 hL)
  | 18, _ => exact wp_pq hp (step_18 (INK_i hσ) h1 h2 hL)
  | 19, _ => exact wp_pq hp (step_19 (INK_i hσ) h1 h2 hL)
  | 20, _ => exact wp_pq hp (step_20 (INK_i hσ) h1 h2 hL)
  | 21, _ => exact wp_pq hp (step_21 (INK_i hσ) h1 h2 hL)
  | 22, _ => exact wp_pq hp (step_22 (INK_i hσ) h1 h2 hL)
  | 23, _ => exact wp_pq hp (step_23 (INK_i hσ) h1 h2 hL)
  | 24, _ => exact wp_pq hp (step_24 (INK_i hσ) h1 h2 hL)
  | 25, _ => exact wp_pq hp (step_25 (INK_i hσ) h1 h2 hL)
  | 26, _ => exact wp_pq hp (step_26 (INK_i hσ) h1 h2 hL)
  | 27, _ => exact wp_pq hp (step_27 (INK_i hσ) h1 h2 hL)
  | 28, _ => exact wp_pq hp (step_28 (INK_i hσ) h1 h2 hL)
  | 29, _ => exact step_29 hσ hp h1 h2 hL
  | 30, _ => exact step_cmp hσ hp h1 h2 hL
  | 31, _ => exact wp_pq hp (step_31 (INK_i hσ) h1 h2 hL)
  | (n + 32), h => exact absurd h (by omega)
theorem en_fine0 (dg : Int32) (L : Nat) (xs : Nat → Int32) (hL : L ≤ 3073) : ∃ Inv : Nat → SG → Prop, Inv 0 (sg0 dg) ∧ ∀ (n k : Nat) (σ : SG) (i : Int), k < 32 → n < 512 → Inv n σ → 1 ≤ i → i + 5 < (L : Int) → ∃ σ', fS k σ xs L i = some (true, σ') ∧ Inv (n + 1) σ' := by
  refine ⟨fun _ σ => INV σ ∧ PSq σ, ⟨INV_0 dg, PQ_0 dg⟩, fun n k σ i hk _ hI h1 h2 => ?_⟩
  obtain ⟨⟨b, τ⟩, e, hb, hτ⟩ := step_ok (xs := xs) hI.1 hI.2 hk h1 h2 hL
  have hb : b = true := hb
  subst hb
  exact ⟨τ, e, hτ⟩
end GOOD
