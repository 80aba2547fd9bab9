section FACE
/-- all shapes -/
def allS : List Nat := (List.range 33).map fun i => 34 + 4 * i
theorem allS_1 {u : Nat} (h : isS u) : ∀ s ∈ [u], s ∈ allS := fun s hs => by
  rw [List.mem_singleton.mp hs]
  obtain ⟨a, b, c⟩ := h
  exact List.mem_map.mpr ⟨(u - 34) / 4, List.mem_range.mpr (by omega), by omega⟩
theorem allS_0 : ∀ s ∈ ([] : List Nat), s ∈ allS := fun s hs => (by cases hs)
theorem allS_h : ∀ s ∈ allS, s ∈ allS := fun s hs => hs
/-- all shapes but one -/
def SHX (u : Nat) (σ : SG) : Prop := ∀ s, isS s → s ≠ 162 → s ≠ u → SHa σ s
theorem SHX_of {u : Nat} {σ : SG} (h : SHA σ) : SHX u σ := fun s hs n _ => h s hs n
theorem SHX_f {ms : List Nat} {u : Nat} {σ τ : SG} (f : FC ms [u] σ τ) (hu : isS u) (h : SHX u σ) : SHX u τ := fun s hs n m => SHa_f f hs (NS_1 hu (fun z => m z.symm)) (h s hs n m)
theorem SHX_0 {ms : List Nat} {u : Nat} {σ τ : SG} (f : FC ms [] σ τ) (h : SHX u σ) : SHX u τ := fun s hs n m => SHa_f f hs (NS_0 _) (h s hs n m)
theorem SHX_e {u : Nat} {σ : SG} (h : SHX u σ) (k : SHa σ u) : SHA σ := fun s hs n => by
  by_cases z : s = u
  · rw [z]; exact k
  · exact h s hs n z
theorem SHA_s {ms : List Nat} {σ τ : SG} (f : FC ms [162] σ τ) (h : SHA σ) : SHA τ := fun s hs n => SHa_f f hs (NS_1 (by decide) (fun z => n z.symm)) (h s hs n)
theorem SHA_w {ms : List Nat} {u : Nat} {σ τ : SG} (f : FC ms [u] σ τ) (hu : isS u) (h : SHA σ) (k : SHa τ u) : SHA τ := SHX_e (SHX_f f hu (SHX_of h)) k
theorem SHa_z {σ : SG} {u : Nat} (h1 : σ (kA_plans u) 0 = 0) (h2 : σ (kA_points u) 0 = 0) : SHa σ u := Or.inl ⟨h1, h2⟩
theorem v_slotNumbered {σ : SG} {slot_0 : Int} (hσ : II σ) (qslot_0 : (-2147483648) ≤ slot_0 ∧ slot_0 ≤ 2147483647) : wp_ (fQ_slotNumbered σ slot_0) (fun r => (∀ v, r.1 = .inl v → isS v ∧ v ≠ 162) ∧ (∀ e : Nat, r.1 = .inr e → 0 ≤ e ∧ e ≤ 0) ∧ II r.2 ∧ FR [] σ r.2) := by
  unfold fQ_slotNumbered
  refine wp_if (fun h => ?_) (fun h => ?_)
  · exact wp_some ⟨fun v q => (by cases q), fun e q => (by cases q; omega), hσ, FR_refl _ _⟩
  · rw [w32_of (by omega) (by omega)] at h ⊢
    refine wp_ck (by omega) (wp_some ⟨fun v q => ?_, fun e q => (by cases q), hσ, FR_refl _ _⟩)
    injection q with q
    subst q
    refine ⟨⟨by omega, by omega, by omega⟩, by omega⟩
end FACE
