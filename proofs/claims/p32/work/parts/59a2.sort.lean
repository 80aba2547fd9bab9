section SRT
theorem v_fillI {σ : SG} {a_0 : Nat} {a_n : Nat} {val_0 : Int} (hσ : II σ) (ha : 42496 ≤ a_0 * 256) (hb : BD (bnd (a_0 * 256)) val_0) (hn : a_n ≤ 100000) : wp_ (fU_fillI σ a_0 a_n val_0) (fun r => II r ∧ FC [(a_0 * 256)] [] σ r ∧ (∀ i, 0 ≤ i → i < (a_n : Int) → r (a_0 * 256) i = val_0)) := by
  unfold fU_fillI
  rw [w32_of (x := (a_n : Int)) (by omega) (by omega)]
  refine wp_bd (P := fun s => II s.2 ∧ FC [(a_0 * 256)] [] σ s.2 ∧ (∀ i, 0 ≤ i → i < (a_n : Int) → s.2 (a_0 * 256) i = val_0)) ?_ (fun s _ h => wp_some h)
  refine wp_whl (fun s => 0 ≤ s.1 ∧ s.1 ≤ (a_n : Int) ∧ II s.2 ∧ FC [(a_0 * 256)] [] σ s.2 ∧ (∀ i, 0 ≤ i → i < s.1 → s.2 (a_0 * 256) i = val_0)) (fun s => ((a_n : Int) - s.1).toNat) ⟨Int.le_refl _, by omega, hσ, FC_refl _ _ _, fun i a b => by omega⟩ ?_
  rintro ⟨i, τ⟩ ⟨i0, i1, hτ, f, g⟩
  dsimp only at i0 i1 hτ f g ⊢
  rw [w32_of (x := i) (by omega) (by omega)]
  refine wp_if (fun h => ?_) (fun h => ?_)
  · refine wp_wa i0 h (wp_il ⟨⟨by omega, by omega, II_sg hτ hb, ?_, fun k k0 k1 => ?_⟩, by show ((a_n : Int) - (i + 1)).toNat < ((a_n : Int) - i).toNat; omega⟩)
    · exact FC_tr f (FC_sg rfl (Or.inr ha)) (by simp) (by simp) (by simp) (by simp)
    · show sg τ (a_0 * 256) i val_0 (a_0 * 256) k = val_0
      by_cases z : k = i
      · rw [z, sg_at]
      · rw [sg_ni z]; exact g k k0 (by have : k < i + 1 := k1; omega)
  · exact wp_ir ⟨hτ, f, fun k k0 k1 => g k k0 (by omega)⟩
theorem v_fillIR {σ : SG} {a_0 : Nat} {a_n : Nat} {fromIndex_0 : Int} {toIndex_0 : Int} {val_0 : Int} (hσ : II σ) (ha : 42496 ≤ a_0 * 256) (hb : BD (bnd (a_0 * 256)) val_0) (hn : a_n ≤ 100000) (hr : 0 ≤ fromIndex_0 ∧ fromIndex_0 ≤ toIndex_0 ∧ toIndex_0 ≤ (a_n : Int)) : wp_ (fU_fillIR σ a_0 a_n fromIndex_0 toIndex_0 val_0) (fun r => II r ∧ FC [(a_0 * 256)] [] σ r ∧ (∀ i, fromIndex_0 ≤ i → i < toIndex_0 → r (a_0 * 256) i = val_0)) := by
  obtain ⟨r0, r1, r2⟩ := hr
  unfold fU_fillIR
  have hc : wp_ (fU_rangeCheck (a_n : Int) fromIndex_0 toIndex_0) (fun _ => True) := by
    unfold fU_rangeCheck
    simp only [w32_of (x := (a_n : Int)) (by omega) (by omega), w32_of (x := fromIndex_0) (by omega) (by omega), w32_of (x := toIndex_0) (by omega) (by omega)]
    repeat (first | exact wp_some trivial | (refine wp_if (fun h => ?_) (fun h => ?_)) | (exfalso; omega))
  refine wp_bd hc (fun _ _ _ => ?_)
  rw [w32_of (x := toIndex_0) (by omega) (by omega)]
  refine wp_bd (P := fun s => II s.2 ∧ FC [(a_0 * 256)] [] σ s.2 ∧ (∀ i, fromIndex_0 ≤ i → i < toIndex_0 → s.2 (a_0 * 256) i = val_0)) ?_ (fun s _ h => wp_some h)
  refine wp_whl (fun s => fromIndex_0 ≤ s.1 ∧ s.1 ≤ toIndex_0 ∧ II s.2 ∧ FC [(a_0 * 256)] [] σ s.2 ∧ (∀ i, fromIndex_0 ≤ i → i < s.1 → s.2 (a_0 * 256) i = val_0)) (fun s => (toIndex_0 - s.1).toNat) ⟨Int.le_refl _, by omega, hσ, FC_refl _ _ _, fun i a b => by omega⟩ ?_
  rintro ⟨i, τ⟩ ⟨i0, i1, hτ, f, g⟩
  dsimp only at i0 i1 hτ f g ⊢
  rw [w32_of (x := i) (by omega) (by omega)]
  refine wp_if (fun h => ?_) (fun h => ?_)
  · refine wp_wa (by omega) (by omega) (wp_il ⟨⟨by omega, by omega, II_sg hτ hb, ?_, fun k k0 k1 => ?_⟩, by show (toIndex_0 - (i + 1)).toNat < (toIndex_0 - i).toNat; omega⟩)
    · exact FC_tr f (FC_sg rfl (Or.inr ha)) (by simp) (by simp) (by simp) (by simp)
    · show sg τ (a_0 * 256) i val_0 (a_0 * 256) k = val_0
      by_cases z : k = i
      · rw [z, sg_at]
      · rw [sg_ni z]; exact g k k0 (by have : k < i + 1 := k1; omega)
  · exact wp_ir ⟨hτ, f, fun k k0 k1 => g k k0 (by omega)⟩
theorem v_fillJR {σ : SG} {a_0 : Nat} {a_n : Nat} {fromIndex_0 : Int} {toIndex_0 : Int} {val_0 : Int} (hσ : II σ) (ha : 42496 ≤ a_0 * 256) (hb : BD (bnd (a_0 * 256)) val_0) (hn : a_n ≤ 100000) (hr : 0 ≤ fromIndex_0 ∧ fromIndex_0 ≤ toIndex_0 ∧ toIndex_0 ≤ (a_n : Int)) : wp_ (fU_fillJR σ a_0 a_n fromIndex_0 toIndex_0 val_0) (fun r => II r ∧ FC [(a_0 * 256)] [] σ r ∧ (∀ i, fromIndex_0 ≤ i → i < toIndex_0 → r (a_0 * 256) i = val_0)) := by
  obtain ⟨r0, r1, r2⟩ := hr
  unfold fU_fillJR
  have hc : wp_ (fU_rangeCheck (a_n : Int) fromIndex_0 toIndex_0) (fun _ => True) := by
    unfold fU_rangeCheck
    simp only [w32_of (x := (a_n : Int)) (by omega) (by omega), w32_of (x := fromIndex_0) (by omega) (by omega), w32_of (x := toIndex_0) (by omega) (by omega)]
    repeat (first | exact wp_some trivial | (refine wp_if (fun h => ?_) (fun h => ?_)) | (exfalso; omega))
  refine wp_bd hc (fun _ _ _ => ?_)
  rw [w32_of (x := toIndex_0) (by omega) (by omega)]
  refine wp_bd (P := fun s => II s.2 ∧ FC [(a_0 * 256)] [] σ s.2 ∧ (∀ i, fromIndex_0 ≤ i → i < toIndex_0 → s.2 (a_0 * 256) i = val_0)) ?_ (fun s _ h => wp_some h)
  refine wp_whl (fun s => fromIndex_0 ≤ s.1 ∧ s.1 ≤ toIndex_0 ∧ II s.2 ∧ FC [(a_0 * 256)] [] σ s.2 ∧ (∀ i, fromIndex_0 ≤ i → i < s.1 → s.2 (a_0 * 256) i = val_0)) (fun s => (toIndex_0 - s.1).toNat) ⟨Int.le_refl _, by omega, hσ, FC_refl _ _ _, fun i a b => by omega⟩ ?_
  rintro ⟨i, τ⟩ ⟨i0, i1, hτ, f, g⟩
  dsimp only at i0 i1 hτ f g ⊢
  rw [w32_of (x := i) (by omega) (by omega)]
  refine wp_if (fun h => ?_) (fun h => ?_)
  · refine wp_wa (by omega) (by omega) (wp_il ⟨⟨by omega, by omega, II_sg hτ hb, ?_, fun k k0 k1 => ?_⟩, by show (toIndex_0 - (i + 1)).toNat < (toIndex_0 - i).toNat; omega⟩)
    · exact FC_tr f (FC_sg rfl (Or.inr ha)) (by simp) (by simp) (by simp) (by simp)
    · show sg τ (a_0 * 256) i val_0 (a_0 * 256) k = val_0
      by_cases z : k = i
      · rw [z, sg_at]
      · rw [sg_ni z]; exact g k k0 (by have : k < i + 1 := k1; omega)
  · exact wp_ir ⟨hτ, f, fun k k0 k1 => g k k0 (by omega)⟩
/-- what stands in the first n places of τ's row stood there in σ's -/
def SB (c : Nat) (n : Int) (σ τ : SG) : Prop := (∀ i, 0 ≤ i → i < n → ∃ j, 0 ≤ j ∧ j < n ∧ τ c i = σ c j) ∧ ∀ i, (i < 0 ∨ n ≤ i) → τ c i = σ c i
theorem SB_refl (c : Nat) (n : Int) (σ : SG) : SB c n σ σ := ⟨fun i a b => ⟨i, a, b, rfl⟩, fun _ _ => rfl⟩
theorem SB_tr {c : Nat} {n : Int} {σ τ υ : SG} (a : SB c n σ τ) (b : SB c n τ υ) : SB c n σ υ := by
  refine ⟨fun i i0 i1 => ?_, fun i h => (b.2 i h).trans (a.2 i h)⟩
  obtain ⟨j, j0, j1, e⟩ := b.1 i i0 i1
  obtain ⟨k, k0, k1, d⟩ := a.1 j j0 j1
  exact ⟨k, k0, k1, e.trans d⟩
theorem SB_sg {c : Nat} {n : Int} {σ τ : SG} {i j : Int} (h : SB c n σ τ) (i0 : 0 ≤ i) (i1 : i < n) (j0 : 0 ≤ j) (j1 : j < n) {v : Int} (hv : v = σ c j) : SB c n σ (sg τ c i v) := by
  refine ⟨fun k k0 k1 => ?_, fun k hk => ?_⟩
  · by_cases z : k = i
    · exact ⟨j, j0, j1, by rw [z, sg_at, hv]⟩
    · rw [sg_ni z]; exact h.1 k k0 k1
  · rw [sg_ni (by omega)]; exact h.2 k hk
theorem SB_up {c : Nat} {m n : Int} {σ τ : SG} (h : SB c m σ τ) (hm : m ≤ n) : SB c n σ τ := by
  refine ⟨fun i i0 i1 => ?_, fun i hi => h.2 i (by omega)⟩
  by_cases z : i < m
  · obtain ⟨j, j0, j1, e⟩ := h.1 i i0 z
    exact ⟨j, j0, by omega, e⟩
  · exact ⟨i, i0, i1, h.2 i (by omega)⟩
theorem SB_mv {c : Nat} {n : Int} {σ τ υ : SG} {i j : Int} (h : SB c n σ τ) (e : υ = sg τ c i (τ c j)) (i0 : 0 ≤ i) (i1 : i < n) (j0 : 0 ≤ j) (j1 : j < n) : SB c n σ υ := by
  obtain ⟨k, k0, k1, ek⟩ := h.1 j j0 j1
  rw [e]; exact SB_sg h i0 i1 k0 k1 ek
theorem v_sift {σ : SG} {row_0 : Nat} {row_n : Nat} {root_0 : Int} {size_0 : Int} (hσ : II σ) (ha : 42496 ≤ row_0 * 256) (hn : row_n ≤ 16384) (hr : 0 ≤ root_0 ∧ root_0 < size_0) (hs : size_0 ≤ (row_n : Int)) : wp_ (fQ_sift σ row_0 row_n root_0 size_0) (fun r => II r ∧ FC [(row_0 * 256)] [] σ r ∧ SB (row_0 * 256) size_0 σ r) := by
  obtain ⟨r0, r1⟩ := hr
  unfold fQ_sift
  rw [w32_of (x := root_0) (by omega) (by omega), w32_of (x := size_0) (by omega) (by omega)]
  refine wp_rd r0 (by omega) ?_
  refine wp_bd (P := fun s => (0 ≤ s.1 ∧ s.1 < size_0) ∧ II s.2.2 ∧ FC [(row_0 * 256)] [] σ s.2.2 ∧ SB (row_0 * 256) size_0 σ s.2.2) ?_ ?_
  · refine wp_whl (fun s => (0 ≤ s.1 ∧ s.1 < size_0) ∧ s.2.1 = 2 * s.1 + 1 ∧ II s.2.2 ∧ FC [(row_0 * 256)] [] σ s.2.2 ∧ SB (row_0 * 256) size_0 σ s.2.2) (fun s => (size_0 - s.1).toNat) ⟨⟨r0, r1⟩, rfl, hσ, FC_refl _ _ _, SB_refl _ _ _⟩ ?_
    rintro ⟨at_, child, τ⟩ ⟨⟨a0, a1⟩, hc, hτ, f, g⟩
    dsimp only at a0 a1 hc hτ f g ⊢
    rw [w32_of (x := child) (by omega) (by omega), w32_of (x := child + 1) (by omega) (by omega), w32_of (x := at_) (by omega) (by omega)]
    refine wp_if (fun h => ?_) (fun h => wp_ir ⟨⟨a0, a1⟩, hτ, f, g⟩)
    refine wp_bd (P := fun k => child ≤ k ∧ k < size_0) ?_ (fun k _ hk => ?_)
    · refine wp_if (fun h2 => ?_) (fun _ => wp_some ⟨Int.le_refl _, h⟩)
      refine wp_rd (by omega) (by omega) (wp_rd (by omega) (by omega) ?_)
      exact wp_if (fun _ => wp_some ⟨by omega, h2⟩) (fun _ => wp_some ⟨Int.le_refl _, h⟩)
    · obtain ⟨k0, k1⟩ := hk
      rw [w32_of (x := k) (by omega) (by omega)]
      refine wp_rd (by omega) (by omega) ?_
      refine wp_if (fun _ => wp_ir ⟨⟨a0, a1⟩, hτ, f, g⟩) (fun _ => ?_)
      refine wp_rd (by omega) (by omega) ?_
      refine wp_wa (by omega) (by omega) ?_
      refine wp_il ⟨⟨⟨by omega, k1⟩, rfl, II_sg hτ (hτ _ _), FC_tr f (FC_sg rfl (Or.inr ha)) (by simp) (by simp) (by simp) (by simp), ?_⟩, by show (size_0 - k).toNat < (size_0 - at_).toNat; omega⟩
      obtain ⟨j, j0, j1, e⟩ := g.1 k (by omega) k1
      exact SB_sg g a0 a1 j0 j1 e
  · rintro ⟨at_, child, τ⟩ _ ⟨⟨a0, a1⟩, hτ, f, g⟩
    dsimp only at a0 a1 hτ f g ⊢
    rw [w32_of (x := at_) (by omega) (by omega)]
    refine wp_wa a0 (by omega) (wp_some ⟨II_sg hτ (hσ _ _), FC_tr f (FC_sg rfl (Or.inr ha)) (by simp) (by simp) (by simp) (by simp), SB_sg g a0 a1 r0 r1 rfl⟩)
theorem v_sortRow {σ : SG} {row_0 : Nat} {row_n : Nat} {size_0 : Int} (hσ : II σ) (ha : 42496 ≤ row_0 * 256) (hn : row_n ≤ 16384) (hs : 0 ≤ size_0 ∧ size_0 ≤ (row_n : Int)) : wp_ (fQ_sortRow σ row_0 row_n size_0) (fun r => II r ∧ FC [(row_0 * 256)] [] σ r ∧ SB (row_0 * 256) size_0 σ r) := by
  obtain ⟨s0, s1⟩ := hs
  unfold fQ_sortRow
  have hq := q_idv2 size_0 (by rw [w32_of (by omega) (by omega)]; exact s0)
  rw [w32_of (by omega) (by omega)] at hq
  refine wp_bd (P := fun s => II s.2 ∧ FC [(row_0 * 256)] [] σ s.2 ∧ SB (row_0 * 256) size_0 σ s.2) ?_ ?_
  · refine wp_whl (fun s => (-1 ≤ s.1 ∧ s.1 ≤ size_0 / 2 - 1) ∧ II s.2 ∧ FC [(row_0 * 256)] [] σ s.2 ∧ SB (row_0 * 256) size_0 σ s.2) (fun s => (s.1 + 1).toNat) ⟨⟨by show -1 ≤ q_idv size_0 2 - 1; omega, by show q_idv size_0 2 - 1 ≤ _; omega⟩, hσ, FC_refl _ _ _, SB_refl _ _ _⟩ ?_
    rintro ⟨root, τ⟩ ⟨⟨a0, a1⟩, hτ, f, g⟩
    dsimp only at a0 a1 hτ f g ⊢
    rw [w32_of (x := root) (by omega) (by omega)]
    refine wp_if (fun h => ?_) (fun h => wp_ir ⟨hτ, f, g⟩)
    refine wp_bd (v_sift (root_0 := root) (size_0 := size_0) hτ ha hn ⟨h, by omega⟩ s1) ?_
    rintro υ _ ⟨hυ, fu, gu⟩
    exact wp_il ⟨⟨⟨by show -1 ≤ root + -1; omega, by show root + -1 ≤ _; omega⟩, hυ, FC_tr f fu (by simp) (by simp) (by simp) (by simp), SB_tr g gu⟩, by show (root + -1 + 1).toNat < (root + 1).toNat; omega⟩
  · rintro ⟨root, τ⟩ _ ⟨hτ, f, g⟩
    dsimp only at hτ f g ⊢
    refine wp_bd (P := fun s => II s.2 ∧ FC [(row_0 * 256)] [] σ s.2 ∧ SB (row_0 * 256) size_0 σ s.2) ?_ (fun s _ h => wp_some h)
    refine wp_whl (fun s => (-1 ≤ s.1 ∧ s.1 ≤ size_0 - 1) ∧ II s.2 ∧ FC [(row_0 * 256)] [] σ s.2 ∧ SB (row_0 * 256) size_0 σ s.2) (fun s => (s.1 + 1).toNat) ⟨⟨by show -1 ≤ size_0 - 1; omega, Int.le_refl _⟩, hτ, f, g⟩ ?_
    rintro ⟨last, υ⟩ ⟨⟨a0, a1⟩, hυ, f, g⟩
    dsimp only at a0 a1 hυ f g ⊢
    rw [w32_of (x := last) (by omega) (by omega)]
    refine wp_if (fun h => ?_) (fun h => wp_ir ⟨hυ, f, g⟩)
    refine wp_rd (by omega) (by omega) (wp_rd (by omega) (by omega) (wp_wa (by omega) (by omega) (wp_wa (by omega) (by omega) ?_)))
    have h1 : II (sg υ (row_0 * 256) 0 (υ (row_0 * 256) last)) := II_sg hυ (hυ _ _)
    have h2 : II (sg (sg υ (row_0 * 256) 0 (υ (row_0 * 256) last)) (row_0 * 256) last (υ (row_0 * 256) 0)) := II_sg h1 (hυ _ _)
    have g2 : SB (row_0 * 256) size_0 υ (sg (sg υ (row_0 * 256) 0 (υ (row_0 * 256) last)) (row_0 * 256) last (υ (row_0 * 256) 0)) := SB_sg (SB_sg (SB_refl _ _ _) (by omega) (by omega) (by omega : (0 : Int) ≤ last) (by omega) rfl) (by omega) (by omega) (Int.le_refl _) (by omega) rfl
    have f2 : FC [(row_0 * 256)] [] υ (sg (sg υ (row_0 * 256) 0 (υ (row_0 * 256) last)) (row_0 * 256) last (υ (row_0 * 256) 0)) := FC_tr (FC_sg rfl (Or.inr ha)) (FC_sg rfl (Or.inr ha)) (by simp) (by simp) (by simp) (by simp)
    refine wp_bd (v_sift (root_0 := 0) (size_0 := last) h2 ha hn ⟨Int.le_refl _, h⟩ (by omega)) ?_
    rintro φ _ ⟨hφ, fu, gu⟩
    exact wp_il ⟨⟨⟨by show -1 ≤ last + -1; omega, by show last + -1 ≤ _; omega⟩, hφ, FC_tr (FC_tr (ms := [(row_0 * 256)]) (ss := []) f f2 (by simp) (by simp) (by simp) (by simp)) fu (by simp) (by simp) (by simp) (by simp), SB_tr (SB_tr g g2) (SB_up gu (by omega))⟩, by show (last + -1 + 1).toNat < (last + 1).toNat; omega⟩
theorem v_leaveEachOnce {σ : SG} {row_0 : Nat} {row_n : Nat} {size_0 : Int} (hσ : II σ) (ha : 42496 ≤ row_0 * 256) (hn : row_n ≤ 16384) (hs : 0 ≤ size_0 ∧ size_0 ≤ (row_n : Int)) : wp_ (fQ_leaveEachOnce σ row_0 row_n size_0) (fun r => (0 ≤ r.1 ∧ r.1 ≤ size_0 ∧ (0 < size_0 → 0 < r.1)) ∧ II r.2 ∧ FC [(row_0 * 256)] [] σ r.2 ∧ SB (row_0 * 256) size_0 σ r.2) := by
  obtain ⟨s0, s1⟩ := hs
  unfold fQ_leaveEachOnce
  rw [w32_of (x := size_0) (by omega) (by omega)]
  refine wp_bd (P := fun s => (0 ≤ s.1 ∧ s.1 ≤ size_0 ∧ (0 < size_0 → 0 < s.1)) ∧ II s.2.2 ∧ FC [(row_0 * 256)] [] σ s.2.2 ∧ SB (row_0 * 256) size_0 σ s.2.2) ?_ (fun s _ h => wp_some h)
  refine wp_whl (fun s => (0 ≤ s.1 ∧ s.1 ≤ s.2.1 ∧ s.2.1 ≤ size_0 ∧ (0 < s.2.1 → 0 < s.1)) ∧ II s.2.2 ∧ FC [(row_0 * 256)] [] σ s.2.2 ∧ SB (row_0 * 256) size_0 σ s.2.2) (fun s => (size_0 - s.2.1).toNat) ⟨⟨Int.le_refl _, Int.le_refl _, s0, fun h => h⟩, hσ, FC_refl _ _ _, SB_refl _ _ _⟩ ?_
  rintro ⟨d, i, τ⟩ ⟨⟨d0, d1, i1, d2⟩, hτ, f, g⟩
  dsimp only at d0 d1 i1 d2 hτ f g ⊢
  simp only [w32_of (x := i) (by omega) (by omega), w32_of (x := d) (by omega) (by omega)]
  refine wp_if (fun h => ?_) (fun h => wp_ir ⟨⟨d0, by omega, fun z => d2 (by omega)⟩, hτ, f, g⟩)
  have put : ∀ v : Int, v = τ (row_0 * 256) i → wp_ (wa_ τ (row_0 * 256) (row_n : Int) d v fun υ => some (d + 1, υ)) (fun s => (1 ≤ s.1 ∧ s.1 ≤ i + 1) ∧ II s.2 ∧ FC [(row_0 * 256)] [] σ s.2 ∧ SB (row_0 * 256) size_0 σ s.2) := fun v hv => by
    refine wp_wa d0 (by omega) (wp_some ⟨⟨by show 1 ≤ d + 1; omega, by show d + 1 ≤ i + 1; omega⟩, II_sg hτ (by rw [hv]; exact hτ _ _), FC_tr f (FC_sg rfl (Or.inr ha)) (by simp) (by simp) (by simp) (by simp), ?_⟩)
    obtain ⟨j, j0, j1, e⟩ := g.1 i (by omega) h
    exact SB_sg g d0 (by omega) j0 j1 (hv.trans e)
  refine wp_bd (P := fun s => (1 ≤ s.1 ∧ s.1 ≤ i + 1) ∧ II s.2 ∧ FC [(row_0 * 256)] [] σ s.2 ∧ SB (row_0 * 256) size_0 σ s.2) ?_ ?_
  · refine wp_if (fun h2 => ?_) (fun h2 => ?_)
    · exact wp_rd (by omega) (by omega) (put _ rfl)
    · rw [w32_of (x := d - 1) (by omega) (by omega)]
      refine wp_rd (by omega) (by omega) (wp_rd (by omega) (by omega) ?_)
      refine wp_if (fun _ => wp_rd (by omega) (by omega) (put _ rfl)) (fun _ => wp_some ⟨⟨by show 1 ≤ d; omega, by show d ≤ i + 1; omega⟩, hτ, f, g⟩)
  · rintro ⟨d', υ⟩ _ ⟨⟨e0, e1⟩, hυ, fu, gu⟩
    exact wp_il ⟨⟨⟨by show 0 ≤ d'; omega, e1, by show i + 1 ≤ size_0; omega, fun _ => by show 0 < d'; omega⟩, hυ, fu, gu⟩, by show (size_0 - (i + 1)).toNat < (size_0 - i).toNat; omega⟩
end SRT
