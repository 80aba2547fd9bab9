section SNB
def lx_ (a b c d : Int) : Prop := a < c ∨ (a = c ∧ b < d)
theorem lx_tr {a b c d e f : Int} (h1 : lx_ a b c d) (h2 : lx_ c d e f) : lx_ a b e f := by unfold lx_ at *; omega
theorem isB {a b c d : Int} (ha : -9223372036854775808 ≤ a ∧ a < 9223372036854775808) (hb : -9223372036854775808 ≤ b ∧ b < 9223372036854775808) (hc : -9223372036854775808 ≤ c ∧ c < 9223372036854775808) (hd : -9223372036854775808 ≤ d ∧ d < 9223372036854775808) : fR_isBefore a b c d = true ↔ lx_ a b c d := by
  unfold fR_isBefore lx_
  rw [w64_of ha.1 ha.2, w64_of hb.1 hb.2, w64_of hc.1 hc.2, w64_of hd.1 hd.2]
  simp
/-- hot pixels are sorted; a place is hot -/
def HO (σ : SG) : Prop := ∀ i j, 0 ≤ i → i < j → j < σ kR_hots 0 → lx_ (σ kR_hotX i) (σ kR_hotY i) (σ kR_hotX j) (σ kR_hotY j)
def HM (σ : SG) (p q : Int) : Prop := ∃ h, 0 ≤ h ∧ h < σ kR_hots 0 ∧ σ kR_hotX h = p ∧ σ kR_hotY h = q
theorem v_hotAt {σ : SG} {x y : Int} (hσ : II σ) (ho : HO σ) (hx : -4611686018427387904 ≤ x ∧ x ≤ 4611686018427387904) (hy : -4611686018427387904 ≤ y ∧ y ≤ 4611686018427387904) : wp_ (fR_hotAt σ x y) (fun v => 0 ≤ v ∧ v ≤ σ kR_hots 0 ∧ (∀ i, 0 ≤ i → i < v → lx_ (σ kR_hotX i) (σ kR_hotY i) x y) ∧ (∀ i, v ≤ i → i < σ kR_hots 0 → ¬ lx_ (σ kR_hotX i) (σ kR_hotY i) x y)) := by
  unfold fR_hotAt
  have bn := ii_kR_hots hσ 0
  refine wp_bd (P := fun s => 0 ≤ s.1 ∧ s.1 ≤ σ kR_hots 0 ∧ (∀ i, 0 ≤ i → i < s.1 → lx_ (σ kR_hotX i) (σ kR_hotY i) x y) ∧ (∀ i, s.1 ≤ i → i < σ kR_hots 0 → ¬ lx_ (σ kR_hotX i) (σ kR_hotY i) x y)) ?_ (fun s _ h => wp_some h)
  refine wp_whl (fun s => 0 ≤ s.1 ∧ s.1 ≤ s.2 ∧ s.2 ≤ σ kR_hots 0 ∧ (∀ i, 0 ≤ i → i < s.1 → lx_ (σ kR_hotX i) (σ kR_hotY i) x y) ∧ (∀ i, s.2 ≤ i → i < σ kR_hots 0 → ¬ lx_ (σ kR_hotX i) (σ kR_hotY i) x y)) (fun s => (s.2 - s.1).toNat) ⟨Int.le_refl 0, bn.1, Int.le_refl _, fun i i0 i1 => by dsimp only at i1; omega, fun i i0 i1 => by dsimp only at i0; omega⟩ ?_
  rintro ⟨l, h⟩ ⟨l0, lh, h1, A, B⟩
  dsimp only at l0 lh h1 A B ⊢
  rw [w32_of (x := l) (by omega) (by omega), w32_of (x := h) (by omega) (by omega)]
  refine wp_if (fun g => ?_) (fun g => ?_)
  · have em : q_idv (l + h) 2 = (l + h) / 2 := by rw [q_idv2 _ (by rw [w32_of (by omega) (by omega)]; omega), w32_of (by omega) (by omega)]
    rw [em]
    have bm : l ≤ (l + h) / 2 ∧ (l + h) / 2 < h := by omega
    generalize (l + h) / 2 = m at *
    rw [w32_of (x := m) (by omega) (by omega)]
    have bX := ii_kR_hotX hσ m
    have bY := ii_kR_hotY hσ m
    refine wp_bd (P := fun s => l ≤ s.1 ∧ s.1 ≤ s.2 ∧ s.2 ≤ h ∧ s.2 - s.1 < h - l ∧ (∀ i, 0 ≤ i → i < s.1 → lx_ (σ kR_hotX i) (σ kR_hotY i) x y) ∧ (∀ i, s.2 ≤ i → i < σ kR_hots 0 → ¬ lx_ (σ kR_hotX i) (σ kR_hotY i) x y)) ?_ (fun s _ hs => wp_il ⟨⟨by dsimp only; omega, hs.2.1, by dsimp only; omega, hs.2.2.2.2.1, hs.2.2.2.2.2⟩, by dsimp only; omega⟩)
    refine wp_rd (by omega) (by omega) (wp_rd (by omega) (by omega) ?_)
    refine wp_if (fun c => ?_) (fun c => ?_)
    · have c := (isB (by omega) (by omega) (by omega) (by omega)).mp c
      refine wp_some ⟨by dsimp only; omega, by dsimp only; omega, Int.le_refl _, by dsimp only; omega, fun i i0 i1 => ?_, B⟩
      dsimp only at i1
      by_cases e : i = m
      · rw [e]; exact c
      · exact lx_tr (ho i m i0 (by omega) (by omega)) c
    · have c : ¬ lx_ (σ kR_hotX m) (σ kR_hotY m) x y := fun q => c ((isB (by omega) (by omega) (by omega) (by omega)).mpr q)
      refine wp_some ⟨Int.le_refl _, by dsimp only; omega, by dsimp only; omega, by dsimp only; omega, A, fun i i0 i1 q => ?_⟩
      dsimp only at i0
      by_cases e : i = m
      · rw [e] at q; exact c q
      · exact c (lx_tr (ho m i (by omega) (by omega) i1) q)
  · have e : h = l := by omega
    rw [e] at B
    exact wp_ir ⟨l0, by dsimp only; omega, A, B⟩
theorem v_addHot {σ : SG} {x y : Int} (hσ : II σ) (ho : HO σ) (hx : -1000000000 ≤ x ∧ x ≤ 1000000000) (hy : -1000000000 ≤ y ∧ y ≤ 1000000000) : wp_ (fR_addHot σ x y) (fun r => II r.2 ∧ FR [kR_hotX, kR_hotY, kR_hots] σ r.2 ∧ HO r.2 ∧ (r.1 = true → ∀ p q, HM r.2 p q ↔ HM σ p q ∨ (p = x ∧ q = y))) := by
  unfold fR_addHot
  have bn := ii_kR_hots hσ 0
  refine wp_bd (v_hotAt hσ ho (by omega) (by omega)) ?_
  rintro k - ⟨k0, k1, A, B⟩
  rw [w32_of (x := k) (by omega) (by omega), w32_of (x := σ kR_hots 0) (by omega) (by omega), w64_of (x := x) (by omega) (by omega), w64_of (x := y) (by omega) (by omega)]
  have bX := ii_kR_hotX hσ k
  have bY := ii_kR_hotY hσ k
  refine wp_bd (P := fun b => b = true ↔ (k < σ kR_hots 0 ∧ σ kR_hotX k = x ∧ σ kR_hotY k = y)) ?_ ?_
  · refine wp_if (fun g => ?_) (fun g => wp_some (by simp; omega))
    refine wp_rd (by omega) (by omega) ?_
    rw [w64_of (x := σ kR_hotX k) (by omega) (by omega)]
    refine wp_if (fun g1 => ?_) (fun g1 => wp_some (by simp; omega))
    refine wp_rd (by omega) (by omega) ?_
    rw [w64_of (x := σ kR_hotY k) (by omega) (by omega)]
    refine wp_if (fun g2 => wp_some (by simp; omega)) (fun g2 => wp_some (by simp; omega))
  rintro b - hb
  refine wp_if (fun g => ?_) (fun g => ?_)
  · obtain ⟨b1, b2, b3⟩ := hb.mp g
    refine wp_some ⟨hσ, FR_refl _ _, ho, fun _ p q => ⟨Or.inl, ?_⟩⟩
    rintro (h | ⟨h1, h2⟩)
    · exact h
    · exact ⟨k, k0, b1, b2.trans h1.symm, b3.trans h2.symm⟩
  refine wp_if (fun gn => wp_some ⟨hσ, FR_refl _ _, ho, fun e => by cases e⟩) (fun gn => ?_)
  -- not there yet
  have nt : ¬ (k < σ kR_hots 0 ∧ σ kR_hotX k = x ∧ σ kR_hotY k = y) := fun q => g (hb.mpr q)
  have B2 : ∀ i, k ≤ i → i < σ kR_hots 0 → lx_ x y (σ kR_hotX i) (σ kR_hotY i) := by
    intro i i0 i1
    have hk : lx_ x y (σ kR_hotX k) (σ kR_hotY k) := by
      have := B k (Int.le_refl _) (by omega)
      unfold lx_ at this ⊢; omega
    by_cases e : i = k
    · rw [e]; exact hk
    · exact lx_tr hk (ho k i k0 (by omega) i1)
  refine wp_bd (P := fun s => II s.2 ∧ FR [kR_hotX, kR_hotY, kR_hots] σ s.2 ∧ s.2 kR_hots 0 = σ kR_hots 0 ∧ (∀ i, 0 ≤ i → i < k → s.2 kR_hotX i = σ kR_hotX i ∧ s.2 kR_hotY i = σ kR_hotY i) ∧ (∀ i, k < i → i ≤ σ kR_hots 0 → s.2 kR_hotX i = σ kR_hotX (i - 1) ∧ s.2 kR_hotY i = σ kR_hotY (i - 1))) ?_ ?_
  · refine wp_whl (fun s => k ≤ s.1 ∧ s.1 ≤ σ kR_hots 0 ∧ II s.2 ∧ FR [kR_hotX, kR_hotY, kR_hots] σ s.2 ∧ s.2 kR_hots 0 = σ kR_hots 0 ∧ (∀ i, 0 ≤ i → i < s.1 → s.2 kR_hotX i = σ kR_hotX i ∧ s.2 kR_hotY i = σ kR_hotY i) ∧ (∀ i, s.1 < i → i ≤ σ kR_hots 0 → s.2 kR_hotX i = σ kR_hotX (i - 1) ∧ s.2 kR_hotY i = σ kR_hotY (i - 1))) (fun s => (s.1 - k).toNat) ⟨k1, Int.le_refl _, hσ, FR_refl _ _, rfl, fun _ _ _ => ⟨rfl, rfl⟩, fun i i0 i1 => by dsimp only at i0; omega⟩ ?_
    rintro ⟨i, τ⟩ ⟨i0, i1, hτ, hf, hn, C, D⟩
    dsimp only at i0 i1 hτ hf hn C D ⊢
    rw [w32_of (x := i) (by omega) (by omega)]
    refine wp_if (fun p => ?_) (fun p => wp_ir ⟨hτ, hf, hn, fun j j0 j1 => C j j0 (by omega), fun j j0 j1 => D j (by omega) j1⟩)
    rw [w32_of (x := i - 1) (by omega) (by omega)]
    refine wp_rd (by omega) (by omega) ?_
    refine wp_waI hτ b_kR_hotX (by omega) (by omega) (ii_kR_hotX hτ _) (fun σ1 h1 e1 => ?_)
    refine wp_rd (by omega) (by omega) ?_
    refine wp_waI h1 b_kR_hotY (by omega) (by omega) (ii_kR_hotY h1 _) (fun σ2 h2 e2 => ?_)
    have vx : ∀ j, σ2 kR_hotX j = if j = i then τ kR_hotX (i - 1) else τ kR_hotX j := by
      intro j
      rw [e2, sg_nc (by decide), e1]
      by_cases q : j = i
      · rw [if_pos q, q, sg_at]
      · rw [if_neg q, sg_ni q]
    have vy : ∀ j, σ2 kR_hotY j = if j = i then τ kR_hotY (i - 1) else τ kR_hotY j := by
      intro j
      rw [e2]
      by_cases q : j = i
      · rw [if_pos q, q, sg_at, e1, sg_nc (by decide)]
      · rw [if_neg q, sg_ni q, e1, sg_nc (by decide)]
    refine wp_il ⟨⟨by dsimp only; omega, by dsimp only; omega, h2, FR_tr (FR_tr hf (FR_sg e1) (by decide) (by decide) : FR [kR_hotX, kR_hotY, kR_hots] σ σ1) (FR_sg e2) (by decide) (by decide), by show σ2 kR_hots 0 = _; rw [e2, sg_nc (by decide), e1, sg_nc (by decide)]; exact hn, fun j j0 j1 => ?_, fun j j0 j1 => ?_⟩, by dsimp only; omega⟩
    · dsimp only at j1 ⊢
      rw [vx, vy, if_neg (by omega), if_neg (by omega)]; exact C j j0 (by omega)
    · dsimp only at j0 ⊢
      rw [vx, vy]
      by_cases q : j = i
      · rw [if_pos q, if_pos q, q]; exact C (i - 1) (by omega) (by omega)
      · rw [if_neg q, if_neg q]; exact D j (by omega) j1
  rintro ⟨i, τ⟩ - ⟨hτ, hf, hn, C, D⟩
  dsimp only at hτ hf hn C D ⊢
  refine wp_waI hτ b_kR_hotX (by omega) (by omega) hx (fun σ1 h1 e1 => ?_)
  refine wp_waI h1 b_kR_hotY (by omega) (by omega) hy (fun σ2 h2 e2 => ?_)
  have n2 : σ2 kR_hots 0 = σ kR_hots 0 := by rw [e2, sg_nc (by decide), e1, sg_nc (by decide)]; exact hn
  rw [n2]
  refine wp_wfI h2 b_kR_hots (by omega) (fun σ3 h3 e3 => ?_)
  have n3 : σ3 kR_hots 0 = σ kR_hots 0 + 1 := sg_val e3
  have vx : ∀ j, 0 ≤ j → j < σ kR_hots 0 + 1 → σ3 kR_hotX j = if j = k then x else if j < k then σ kR_hotX j else σ kR_hotX (j - 1) := by
    intro j j0 j1
    rw [e3, sg_nc (by decide), e2, sg_nc (by decide), e1]
    by_cases q : j = k
    · rw [if_pos q, q, sg_at]
    · rw [if_neg q, sg_ni q]
      by_cases r : j < k
      · rw [if_pos r]; exact (C j j0 r).1
      · rw [if_neg r]; exact (D j (by omega) (by omega)).1
  have vy : ∀ j, 0 ≤ j → j < σ kR_hots 0 + 1 → σ3 kR_hotY j = if j = k then y else if j < k then σ kR_hotY j else σ kR_hotY (j - 1) := by
    intro j j0 j1
    rw [e3, sg_nc (by decide), e2]
    by_cases q : j = k
    · rw [if_pos q, q, sg_at]
    · rw [if_neg q, sg_ni q, e1, sg_nc (by decide)]
      by_cases r : j < k
      · rw [if_pos r]; exact (C j j0 r).2
      · rw [if_neg r]; exact (D j (by omega) (by omega)).2
  refine wp_some ⟨h3, ?_, ?_, fun _ p q => ?_⟩
  · exact FR_tr (FR_tr (FR_tr hf (FR_sg e1) (by decide) (by decide) : FR [kR_hotX, kR_hotY, kR_hots] σ σ1) (FR_sg e2) (by decide) (by decide) : FR [kR_hotX, kR_hotY, kR_hots] σ σ2) (FR_sg e3) (by decide) (by decide)
  · intro i j i0 ij j1
    dsimp only at j1 ⊢
    rw [n3] at j1
    rw [vx i i0 (by omega), vy i i0 (by omega), vx j (by omega) j1, vy j (by omega) j1]
    by_cases p1 : i = k
    · rw [if_pos p1, if_pos p1, if_neg (by omega), if_neg (by omega), if_neg (by omega), if_neg (by omega)]
      exact B2 (j - 1) (by omega) (by omega)
    · rw [if_neg p1, if_neg p1]
      by_cases p2 : j = k
      · rw [if_pos (by omega), if_pos (by omega), if_pos p2, if_pos p2]
        exact A i i0 (by omega)
      · rw [if_neg p2, if_neg p2]
        by_cases p3 : i < k
        · rw [if_pos p3, if_pos p3]
          by_cases p4 : j < k
          · rw [if_pos p4, if_pos p4]; exact ho i j i0 ij (by omega)
          · rw [if_neg p4, if_neg p4]; exact ho i (j - 1) i0 (by omega) (by omega)
        · rw [if_neg p3, if_neg p3, if_neg (by omega), if_neg (by omega)]; exact ho (i - 1) (j - 1) (by omega) (by omega) (by omega)
  · dsimp only
    unfold HM
    rw [n3]
    constructor
    · rintro ⟨h, h0, h1', hx', hy'⟩
      rw [vx h h0 h1'] at hx'
      rw [vy h h0 h1'] at hy'
      by_cases p1 : h = k
      · rw [if_pos p1] at hx' hy'; exact Or.inr ⟨hx'.symm, hy'.symm⟩
      · rw [if_neg p1] at hx' hy'
        by_cases p2 : h < k
        · rw [if_pos p2] at hx' hy'; exact Or.inl ⟨h, h0, by omega, hx', hy'⟩
        · rw [if_neg p2] at hx' hy'; exact Or.inl ⟨h - 1, by omega, by omega, hx', hy'⟩
    · rintro (⟨h, h0, h1', hx', hy'⟩ | ⟨hx', hy'⟩)
      · by_cases p2 : h < k
        · exact ⟨h, h0, by omega, by rw [vx h h0 (by omega), if_neg (by omega), if_pos p2]; exact hx', by rw [vy h h0 (by omega), if_neg (by omega), if_pos p2]; exact hy'⟩
        · exact ⟨h + 1, by omega, by omega, by rw [vx (h + 1) (by omega) (by omega), if_neg (by omega), if_neg (by omega), Int.add_sub_cancel]; exact hx', by rw [vy (h + 1) (by omega) (by omega), if_neg (by omega), if_neg (by omega), Int.add_sub_cancel]; exact hy'⟩
      · exact ⟨k, k0, by omega, by rw [vx k k0 (by omega), if_pos rfl, hx'], by rw [vy k k0 (by omega), if_pos rfl, hy']⟩
end SNB
