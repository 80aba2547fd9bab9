section SNG
abbrev KL : List Nat := [kR_chain, kR_chainDen, kR_chainMany, kR_chainNum, kR_chainOpen]
/-- what is told of place k of a chain -/
def EN (σ τ : SG) (i k : Int) : Prop := (0 ≤ τ kR_chain k ∧ τ kR_chain k < σ kR_hots 0) ∧ (-2000000001 ≤ τ kR_chainNum k ∧ τ kR_chainNum k ≤ 2000000001) ∧ (1 ≤ τ kR_chainDen k ∧ τ kR_chainDen k ≤ 2000000000) ∧ (∃ (hn hd : Rat) (ho : Bool), 0 < hd ∧ ∀ t, PI σ i (τ kR_chain k) t ↔ lk_ (τ kR_chainNum k : Int) (τ kR_chainDen k : Int) (nz (τ kR_chainOpen k)) t ∧ hk_ hn hd ho t) ∧ ∃ t, PI σ i (τ kR_chain k) t
/-- a chain of the hot places from lo on, below h -/
def CH (σ τ : SG) (i lo h : Int) : Prop := (0 ≤ τ kR_chainMany 0 ∧ τ kR_chainMany 0 ≤ h - lo) ∧ (∀ k, 0 ≤ k → k < τ kR_chainMany 0 → EN σ τ i k ∧ lo ≤ τ kR_chain k ∧ τ kR_chain k < h) ∧ (∀ j k, 0 ≤ j → j < k → k < τ kR_chainMany 0 → ∀ t u, PI σ i (τ kR_chain j) t → PI σ i (τ kR_chain k) u → t < u) ∧ (∀ q, lo ≤ q → q < h → (∃ t, PI σ i q t) → ∃ k, 0 ≤ k ∧ k < τ kR_chainMany 0 ∧ τ kR_chain k = q)
theorem px_two {a b : Int} {x : Rat} (h1 : px_ (a : Rat) x) (h2 : px_ (b : Rat) x) : a = b := by
  have := px_one (hA := a) (hB := b) rfl rfl h1 h2
  exact Rat.intCast_inj.mp this
/-- a place is in one pixel alone -/
theorem PI_one {σ : SG} (ho : HO σ) {i g h : Int} {t : Rat} (h1 : PI σ i g t) (h2 : PI σ i h t) (g0 : 0 ≤ g) (g1 : g < σ kR_hots 0) (h0 : 0 ≤ h) (h1' : h < σ kR_hots 0) : g = h := by
  have e1 := px_two h1.2.2.1 h2.2.2.1
  have e2 := px_two h1.2.2.2 h2.2.2.2
  rcases Int.lt_trichotomy g h with q | q | q
  · have := ho g h g0 q h1'; unfold lx_ at this; omega
  · exact q
  · have := ho h g h0 q g1; unfold lx_ at this; omega
theorem v_isSooner {τ : SG} {k : Int} (k0 : 0 ≤ k) (k1 : k ≤ 8192) (hb : RB τ) (b1 : -2000000001 ≤ τ kR_chainNum k ∧ τ kR_chainNum k ≤ 2000000001) (b2 : 1 ≤ τ kR_chainDen k ∧ τ kR_chainDen k ≤ 2000000000) : wp_ (fR_isSooner τ k) (fun b => b = true ↔ (τ kR_lowNum 0 * τ kR_chainDen k < τ kR_chainNum k * τ kR_lowDen 0 ∨ (τ kR_lowNum 0 * τ kR_chainDen k = τ kR_chainNum k * τ kR_lowDen 0 ∧ nz (τ kR_lowOpen 0) = false ∧ nz (τ kR_chainOpen k) = true))) := by
  unfold fR_isSooner
  obtain ⟨r1, r2, r3, r4⟩ := hb
  have m1 := mul_bd2 r1 (y := τ kR_chainDen k) (by omega)
  have m2 := mul_bd2 b1 (y := τ kR_lowDen 0) (by omega)
  rw [w32_of (x := k) (by omega) (by omega)]
  refine wp_rd k0 (by omega) (wp_rd k0 (by omega) ?_)
  rw [w64_of (x := τ kR_lowNum 0 * τ kR_chainDen k - τ kR_chainNum k * τ kR_lowDen 0) (by omega) (by omega)]
  refine wp_bd (P := fun b => b = true ↔ (τ kR_lowNum 0 * τ kR_chainDen k < τ kR_chainNum k * τ kR_lowDen 0 ∨ (τ kR_lowNum 0 * τ kR_chainDen k = τ kR_chainNum k * τ kR_lowDen 0 ∧ nz (τ kR_lowOpen 0) = false ∧ nz (τ kR_chainOpen k) = true))) ?_ (fun _ _ h => wp_some h)
  generalize τ kR_lowNum 0 * τ kR_chainDen k = A at *
  generalize τ kR_chainNum k * τ kR_lowDen 0 = B at *
  refine wp_if (fun g => wp_some ⟨fun _ => Or.inl (by omega), fun _ => rfl⟩) (fun g => ?_)
  refine wp_if (fun g2 => ?_) (fun g2 => wp_some ⟨fun q => (by cases q), fun q => by omega⟩)
  refine wp_if (fun g3 => wp_some ⟨fun q => (by cases q), fun q => ?_⟩) (fun g3 => ?_)
  · rcases q with q | ⟨-, q, -⟩
    · omega
    · rw [g3] at q; cases q
  refine wp_rd k0 (by omega) ?_
  refine wp_if (fun g4 => wp_some ⟨fun _ => Or.inr ⟨by omega, Bool.eq_false_iff.mpr g3, g4⟩, fun _ => rfl⟩) (fun g4 => wp_some ⟨fun q => (by cases q), fun q => ?_⟩)
  rcases q with q | ⟨-, -, q⟩
  · omega
  · exact absurd q g4
theorem EN_iv {σ τ υ : SG} {i k j : Int} (h : EN σ τ i k) (e1 : υ kR_chain j = τ kR_chain k) (e2 : υ kR_chainNum j = τ kR_chainNum k) (e3 : υ kR_chainDen j = τ kR_chainDen k) (e4 : nz (υ kR_chainOpen j) = nz (τ kR_chainOpen k)) : EN σ υ i j := by
  unfold EN at *
  rw [e1, e2, e3, e4]; exact h
theorem v_link {σ τ : SG} {i lo h : Int} (hτ : II τ) (ho : HO σ) (hb : RB τ) (l0 : 0 ≤ lo) (lh : lo ≤ h) (hn : h < σ kR_hots 0) (hn2 : σ kR_hots 0 ≤ 8192) (hc : CH σ τ i lo h) (hiv : ∀ t, iv_ τ t ↔ PI σ i h t) (hex : ∃ t, PI σ i h t) : wp_ (fR_link τ h) (fun υ => II υ ∧ FR [kR_chain, kR_chainDen, kR_chainMany, kR_chainNum, kR_chainOpen] τ υ ∧ CH σ υ i lo (h + 1)) := by
  unfold fR_link
  obtain ⟨⟨c0, c1⟩, cE, cO, cM⟩ := hc
  generalize hL : τ kR_chainMany 0 = L at *
  have bl := hb
  obtain ⟨r1, r2, r3, r4⟩ := hb
  have pld : (0 : Rat) < ((τ kR_lowDen 0 : Int) : Rat) := c_pos (by omega)
  have phd : (0 : Rat) < ((τ kR_highDen 0 : Int) : Rat) := c_pos (by omega)
  have dis : ∀ k, 0 ≤ k → k < L → ∀ t, ¬ (PI σ i (τ kR_chain k) t ∧ PI σ i h t) := by
    intro k k0 k1 t q
    obtain ⟨e, a, b⟩ := cE k k0 k1
    have := PI_one ho q.1 q.2 e.1.1 e.1.2 (by omega) hn
    omega
  -- what is sooner is ahead
  have ahead : ∀ k, 0 ≤ k → k < L → (τ kR_lowNum 0 * τ kR_chainDen k < τ kR_chainNum k * τ kR_lowDen 0 ∨ (τ kR_lowNum 0 * τ kR_chainDen k = τ kR_chainNum k * τ kR_lowDen 0 ∧ nz (τ kR_lowOpen 0) = false ∧ nz (τ kR_chainOpen k) = true)) → ∀ t u, PI σ i h t → PI σ i (τ kR_chain k) u → t < u := by
    intro k k0 k1 hs t u ht hu
    obtain ⟨⟨e1, e2, e3, ⟨hn', hd', ho', p1, p2⟩, e5⟩, -, -⟩ := cE k k0 k1
    have d := dis k k0 k1
    refine iv_ord (n := ((τ kR_lowNum 0 : Int) : Rat)) (d := ((τ kR_lowDen 0 : Int) : Rat)) (o := nz (τ kR_lowOpen 0)) (hn := ((τ kR_highNum 0 : Int) : Rat)) (hd := ((τ kR_highDen 0 : Int) : Rat)) (oh := nz (τ kR_highOpen 0)) (m := ((τ kR_chainNum k : Int) : Rat)) (e := ((τ kR_chainDen k : Int) : Rat)) (p := nz (τ kR_chainOpen k)) (hm := hn') (he := hd') (ph := ho') pld (c_pos (by omega)) phd ?_ ?_ ((hiv t).mpr ht) ((p2 u).mp hu)
    · intro t q
      exact d t ⟨(p2 t).mpr q.2, (hiv t).mp q.1⟩
    · rw [c_lt, c_eq]
      rcases hs with q | ⟨q, q2, -⟩
      · exact Or.inl q
      · exact Or.inr ⟨q, fun z => by rw [q2] at z; cases z.1⟩
  have behind : ∀ k, 0 ≤ k → k < L → ¬ (τ kR_lowNum 0 * τ kR_chainDen k < τ kR_chainNum k * τ kR_lowDen 0 ∨ (τ kR_lowNum 0 * τ kR_chainDen k = τ kR_chainNum k * τ kR_lowDen 0 ∧ nz (τ kR_lowOpen 0) = false ∧ nz (τ kR_chainOpen k) = true)) → ∀ t u, PI σ i (τ kR_chain k) t → PI σ i h u → t < u := by
    intro k k0 k1 hs t u ht hu
    obtain ⟨⟨e1, e2, e3, ⟨hn', hd', ho', p1, p2⟩, e5⟩, -, -⟩ := cE k k0 k1
    have d := dis k k0 k1
    refine iv_ord (n := ((τ kR_chainNum k : Int) : Rat)) (d := ((τ kR_chainDen k : Int) : Rat)) (o := nz (τ kR_chainOpen k)) (hn := hn') (hd := hd') (oh := ho') (m := ((τ kR_lowNum 0 : Int) : Rat)) (e := ((τ kR_lowDen 0 : Int) : Rat)) (p := nz (τ kR_lowOpen 0)) (hm := ((τ kR_highNum 0 : Int) : Rat)) (he := ((τ kR_highDen 0 : Int) : Rat)) (ph := nz (τ kR_highOpen 0)) (c_pos (by omega)) pld p1 ?_ ?_ ((p2 t).mp ht) ((hiv u).mpr hu)
    · intro t q
      exact d t ⟨(p2 t).mpr q.1, (hiv t).mp q.2⟩
    · rw [c_lt, c_eq]
      rcases Int.lt_trichotomy (τ kR_chainNum k * τ kR_lowDen 0) (τ kR_lowNum 0 * τ kR_chainDen k) with q | q | q
      · exact Or.inl q
      · refine Or.inr ⟨q, fun z => hs (Or.inr ⟨q.symm, z.2, z.1⟩)⟩
      · exact absurd (Or.inl q) hs
  have bL : L ≤ 8191 := by omega
  have bh := ii_kR_chain hτ
  refine wp_bd (P := fun s => II s.2 ∧ FR KL τ s.2 ∧ s.2 kR_chainMany 0 = L ∧ 0 ≤ s.1 ∧ s.1 ≤ L ∧ (∀ j, 0 ≤ j → j < s.1 → s.2 kR_chain j = τ kR_chain j ∧ s.2 kR_chainNum j = τ kR_chainNum j ∧ s.2 kR_chainDen j = τ kR_chainDen j ∧ nz (s.2 kR_chainOpen j) = nz (τ kR_chainOpen j)) ∧ (∀ j, s.1 < j → j ≤ L → s.2 kR_chain j = τ kR_chain (j - 1) ∧ s.2 kR_chainNum j = τ kR_chainNum (j - 1) ∧ s.2 kR_chainDen j = τ kR_chainDen (j - 1) ∧ nz (s.2 kR_chainOpen j) = nz (τ kR_chainOpen (j - 1))) ∧ (∀ j, s.1 ≤ j → j < L → ∀ t u, PI σ i h t → PI σ i (τ kR_chain j) u → t < u) ∧ (0 < s.1 → ∀ t u, PI σ i (τ kR_chain (s.1 - 1)) t → PI σ i h u → t < u)) ?_ ?_
  · refine wp_whl (fun s => II s.2 ∧ FR KL τ s.2 ∧ s.2 kR_chainMany 0 = L ∧ 0 ≤ s.1 ∧ s.1 ≤ L ∧ (∀ j, 0 ≤ j → j < s.1 → s.2 kR_chain j = τ kR_chain j ∧ s.2 kR_chainNum j = τ kR_chainNum j ∧ s.2 kR_chainDen j = τ kR_chainDen j ∧ nz (s.2 kR_chainOpen j) = nz (τ kR_chainOpen j)) ∧ (∀ j, s.1 < j → j ≤ L → s.2 kR_chain j = τ kR_chain (j - 1) ∧ s.2 kR_chainNum j = τ kR_chainNum (j - 1) ∧ s.2 kR_chainDen j = τ kR_chainDen (j - 1) ∧ nz (s.2 kR_chainOpen j) = nz (τ kR_chainOpen (j - 1))) ∧ (∀ j, s.1 ≤ j → j < L → ∀ t u, PI σ i h t → PI σ i (τ kR_chain j) u → t < u)) (fun s => s.1.toNat) ⟨hτ, FR_refl _ _, hL, c0, Int.le_refl _, fun j _ _ => ⟨rfl, rfl, rfl, rfl⟩, fun j j0 j1 => by dsimp only at j0; omega, fun j j0 j1 => by dsimp only at j0; omega⟩ ?_
    rintro ⟨k, υ⟩ ⟨hυ, fυ, mυ, k0, k1, A, B, C⟩
    dsimp only at hυ fυ mυ k0 k1 A B C ⊢
    rw [w32_of (x := k) (by omega) (by omega)]
    refine wp_if (fun g => ?_) (fun g => wp_ir ⟨hυ, fυ, mυ, k0, k1, A, B, C, fun q => absurd q g⟩)
    have eL : υ kR_lowNum 0 = τ kR_lowNum 0 ∧ υ kR_lowDen 0 = τ kR_lowDen 0 ∧ υ kR_lowOpen 0 = τ kR_lowOpen 0 ∧ υ kR_highNum 0 = τ kR_highNum 0 ∧ υ kR_highDen 0 = τ kR_highDen 0 := ⟨FR_at fυ (by decide) 0, FR_at fυ (by decide) 0, FR_at fυ (by decide) 0, FR_at fυ (by decide) 0, FR_at fυ (by decide) 0⟩
    obtain ⟨l1, l2, l3, l4, l5⟩ := eL
    obtain ⟨a1, a2, a3, a4⟩ := A (k - 1) (by omega) (by omega)
    obtain ⟨⟨e1, e2, e3, -, -⟩, -, -⟩ := cE (k - 1) (by omega) (by omega)
    refine wp_bd (v_isSooner (τ := υ) (k := k - 1) (by omega) (by omega) ⟨by omega, by omega, by omega, by omega⟩ (by rw [a2]; exact e2) (by rw [a3]; exact e3)) ?_
    rintro b - hbb
    rw [l1, l2, l3, a2, a3, a4] at hbb
    refine wp_if (fun gb => ?_) (fun gb => ?_)
    · rw [w32_of (x := k - 1) (by omega) (by omega)]
      refine wp_rd (by omega) (by omega) ?_
      refine wp_waI hυ b_kR_chain (by omega) (by omega) (ii_kR_chain hυ _) (fun σ1 h1 e1 => ?_)
      refine wp_rd (by omega) (by omega) ?_
      refine wp_waI h1 b_kR_chainNum (by omega) (by omega) (ii_kR_chainNum h1 _) (fun σ2 h2 e2 => ?_)
      refine wp_rd (by omega) (by omega) ?_
      refine wp_waI h2 b_kR_chainDen (by omega) (by omega) (ii_kR_chainDen h2 _) (fun σ3 h3 e3 => ?_)
      refine wp_rd (by omega) (by omega) ?_
      refine wp_waI h3 b_kR_chainOpen (by omega) (by omega) (bz_bd _) (fun σ4 h4 e4 => ?_)
      have v1 : ∀ j, σ4 kR_chain j = if j = k then υ kR_chain (k - 1) else υ kR_chain j := by
        intro j
        rw [e4, sg_nc (by decide), e3, sg_nc (by decide), e2, sg_nc (by decide), e1]
        by_cases q : j = k
        · rw [if_pos q, q, sg_at]
        · rw [if_neg q, sg_ni q]
      have v2 : ∀ j, σ4 kR_chainNum j = if j = k then υ kR_chainNum (k - 1) else υ kR_chainNum j := by
        intro j
        rw [e4, sg_nc (by decide), e3, sg_nc (by decide), e2]
        by_cases q : j = k
        · rw [if_pos q, q, sg_at, e1, sg_nc (by decide)]
        · rw [if_neg q, sg_ni q, e1, sg_nc (by decide)]
      have v3 : ∀ j, σ4 kR_chainDen j = if j = k then υ kR_chainDen (k - 1) else υ kR_chainDen j := by
        intro j
        rw [e4, sg_nc (by decide), e3]
        by_cases q : j = k
        · rw [if_pos q, q, sg_at, e2, sg_nc (by decide), e1, sg_nc (by decide)]
        · rw [if_neg q, sg_ni q, e2, sg_nc (by decide), e1, sg_nc (by decide)]
      have v4 : ∀ j, nz (σ4 kR_chainOpen j) = if j = k then nz (υ kR_chainOpen (k - 1)) else nz (υ kR_chainOpen j) := by
        intro j
        rw [e4]
        by_cases q : j = k
        · rw [if_pos q, q, sg_at, nz_bz, e3, sg_nc (by decide), e2, sg_nc (by decide), e1, sg_nc (by decide)]
        · rw [if_neg q, sg_ni q, e3, sg_nc (by decide), e2, sg_nc (by decide), e1, sg_nc (by decide)]
      refine wp_il ⟨⟨h4, FR_tr (FR_tr (FR_tr (FR_tr fυ (FR_sg e1) (by decide) (by decide) : FR KL τ σ1) (FR_sg e2) (by decide) (by decide) : FR KL τ σ2) (FR_sg e3) (by decide) (by decide) : FR KL τ σ3) (FR_sg e4) (by decide) (by decide), by show σ4 kR_chainMany 0 = L; rw [e4, sg_nc (by decide), e3, sg_nc (by decide), e2, sg_nc (by decide), e1, sg_nc (by decide)]; exact mυ, by dsimp only; omega, by dsimp only; omega, fun j j0 j1 => ?_, fun j j0 j1 => ?_, fun j j0 j1 => ?_⟩, by dsimp only; omega⟩
      · dsimp only at j1 ⊢
        rw [v1, v2, v3, v4, if_neg (by omega), if_neg (by omega), if_neg (by omega), if_neg (by omega)]
        exact A j j0 (by omega)
      · dsimp only at j0 ⊢
        rw [v1, v2, v3, v4]
        by_cases q : j = k
        · rw [if_pos q, if_pos q, if_pos q, if_pos q, q]; exact A (k - 1) (by omega) (by omega)
        · rw [if_neg q, if_neg q, if_neg q, if_neg q]; exact B j (by omega) j1
      · dsimp only at j0
        by_cases q : j = k - 1
        · rw [q]; exact ahead (k - 1) (by omega) (by omega) (hbb.mp gb)
        · exact C j (by omega) j1
    · exact wp_ir ⟨hυ, fυ, mυ, k0, k1, A, B, C, fun _ => behind (k - 1) (by omega) (by omega) (fun q => gb (hbb.mpr q))⟩
  rintro ⟨k, υ⟩ - ⟨hυ, fυ, mυ, k0, k1, A, B, C, D⟩
  dsimp only at hυ fυ mυ k0 k1 A B C D ⊢
  rw [w32_of (x := k) (by omega) (by omega)]
  have l1 : υ kR_lowNum 0 = τ kR_lowNum 0 := FR_at fυ (by decide) 0
  have l2 : υ kR_lowDen 0 = τ kR_lowDen 0 := FR_at fυ (by decide) 0
  have l3 : υ kR_lowOpen 0 = τ kR_lowOpen 0 := FR_at fυ (by decide) 0
  refine wp_waI hυ b_kR_chain (by omega) (by omega) (by omega) (fun σ1 h1 e1 => ?_)
  have y1 : σ1 kR_lowNum 0 = τ kR_lowNum 0 := by rw [e1, sg_nc (by decide)]; exact l1
  rw [y1]
  refine wp_waI h1 b_kR_chainNum (by omega) (by omega) (by omega) (fun σ2 h2 e2 => ?_)
  have y2 : σ2 kR_lowDen 0 = τ kR_lowDen 0 := by rw [e2, sg_nc (by decide), e1, sg_nc (by decide)]; exact l2
  rw [y2]
  refine wp_waI h2 b_kR_chainDen (by omega) (by omega) (by omega) (fun σ3 h3 e3 => ?_)
  have y3 : σ3 kR_lowOpen 0 = τ kR_lowOpen 0 := by rw [e3, sg_nc (by decide), e2, sg_nc (by decide), e1, sg_nc (by decide)]; exact l3
  rw [y3]
  refine wp_waI h3 b_kR_chainOpen (by omega) (by omega) (bz_bd _) (fun σ4 h4 e4 => ?_)
  have y4 : σ4 kR_chainMany 0 = L := by rw [e4, sg_nc (by decide), e3, sg_nc (by decide), e2, sg_nc (by decide), e1, sg_nc (by decide)]; exact mυ
  rw [y4]
  refine wp_wfI h4 b_kR_chainMany (by omega) (fun σ5 h5 e5 => wp_some ?_)
  have m5 : σ5 kR_chainMany 0 = L + 1 := sg_val e5
  have u1 : ∀ j, σ5 kR_chain j = if j = k then h else υ kR_chain j := by
    intro j
    rw [e5, sg_nc (by decide), e4, sg_nc (by decide), e3, sg_nc (by decide), e2, sg_nc (by decide), e1]
    by_cases q : j = k
    · rw [if_pos q, q, sg_at]
    · rw [if_neg q, sg_ni q]
  have u2 : ∀ j, σ5 kR_chainNum j = if j = k then τ kR_lowNum 0 else υ kR_chainNum j := by
    intro j
    rw [e5, sg_nc (by decide), e4, sg_nc (by decide), e3, sg_nc (by decide), e2]
    by_cases q : j = k
    · rw [if_pos q, q, sg_at]
    · rw [if_neg q, sg_ni q, e1, sg_nc (by decide)]
  have u3 : ∀ j, σ5 kR_chainDen j = if j = k then τ kR_lowDen 0 else υ kR_chainDen j := by
    intro j
    rw [e5, sg_nc (by decide), e4, sg_nc (by decide), e3]
    by_cases q : j = k
    · rw [if_pos q, q, sg_at]
    · rw [if_neg q, sg_ni q, e2, sg_nc (by decide), e1, sg_nc (by decide)]
  have u4 : ∀ j, nz (σ5 kR_chainOpen j) = if j = k then nz (τ kR_lowOpen 0) else nz (υ kR_chainOpen j) := by
    intro j
    rw [e5, sg_nc (by decide), e4]
    by_cases q : j = k
    · rw [if_pos q, q, sg_at, nz_bz]
    · rw [if_neg q, sg_ni q, e3, sg_nc (by decide), e2, sg_nc (by decide), e1, sg_nc (by decide)]
  have cv : ∀ j, 0 ≤ j → j < L + 1 → σ5 kR_chain j = if j = k then h else if j < k then τ kR_chain j else τ kR_chain (j - 1) := by
    intro j j0 j1
    rw [u1]
    by_cases q : j = k
    · rw [if_pos q, if_pos q]
    · rw [if_neg q, if_neg q]
      by_cases r : j < k
      · rw [if_pos r]; exact (A j j0 r).1
      · rw [if_neg r]; exact (B j (by omega) (by omega)).1
  have before : ∀ j, 0 ≤ j → j < k → ∀ t u, PI σ i (τ kR_chain j) t → PI σ i h u → t < u := by
    intro j j0 j1 t u ht hu
    by_cases q : j = k - 1
    · rw [q] at ht; exact D (by omega) t u ht hu
    · obtain ⟨⟨-, -, -, -, ⟨v, hv⟩⟩, -, -⟩ := cE (k - 1) (by omega) (by omega)
      have x1 := cO j (k - 1) j0 (by omega) (by omega) t v ht hv
      have x2 := D (by omega) v u hv hu
      grind
  refine ⟨h5, FR_tr (FR_tr (FR_tr (FR_tr (FR_tr fυ (FR_sg e1) (by decide) (by decide) : FR KL τ σ1) (FR_sg e2) (by decide) (by decide) : FR KL τ σ2) (FR_sg e3) (by decide) (by decide) : FR KL τ σ3) (FR_sg e4) (by decide) (by decide) : FR KL τ σ4) (FR_sg e5) (by decide) (by decide), ⟨by omega, by omega⟩, fun j j0 j1 => ?_, fun j l j0 jl l1 t u => ?_, fun q q0 q1 hq => ?_⟩
  · rw [m5] at j1
    by_cases q : j = k
    · refine ⟨⟨?_, ?_, ?_, ?_, ?_⟩, ?_, ?_⟩
      · rw [u1, if_pos q]; omega
      · rw [u2, if_pos q]; exact r1
      · rw [u3, if_pos q]; exact r2
      · refine ⟨((τ kR_highNum 0 : Int) : Rat), ((τ kR_highDen 0 : Int) : Rat), nz (τ kR_highOpen 0), phd, fun t => ?_⟩
        rw [u1, u2, u3, u4, if_pos q, if_pos q, if_pos q, if_pos q]
        exact (hiv t).symm
      · rw [u1, if_pos q]; exact hex
      · rw [u1, if_pos q]; omega
      · rw [u1, if_pos q]; omega
    · by_cases r : j < k
      · obtain ⟨a1, a2, a3, a4⟩ := A j j0 r
        obtain ⟨p1, p2, p3⟩ := cE j j0 (by omega)
        have z1 : σ5 kR_chain j = τ kR_chain j := by rw [u1, if_neg q]; exact a1
        exact ⟨EN_iv p1 z1 (by rw [u2, if_neg q]; exact a2) (by rw [u3, if_neg q]; exact a3) (by rw [u4, if_neg q]; exact a4), by omega, by omega⟩
      · obtain ⟨a1, a2, a3, a4⟩ := B j (by omega) (by omega)
        obtain ⟨p1, p2, p3⟩ := cE (j - 1) (by omega) (by omega)
        have z1 : σ5 kR_chain j = τ kR_chain (j - 1) := by rw [u1, if_neg q]; exact a1
        exact ⟨EN_iv p1 z1 (by rw [u2, if_neg q]; exact a2) (by rw [u3, if_neg q]; exact a3) (by rw [u4, if_neg q]; exact a4), by omega, by omega⟩
  · rw [m5] at l1
    rw [cv j j0 (by omega), cv l (by omega) l1]
    intro ht hu
    by_cases q1 : j = k
    · rw [if_pos q1] at ht
      rw [if_neg (by omega), if_neg (by omega)] at hu
      exact C (l - 1) (by omega) (by omega) t u ht hu
    · rw [if_neg q1] at ht
      by_cases q2 : l = k
      · rw [if_pos q2] at hu
        rw [if_pos (by omega)] at ht
        exact before j j0 (by omega) t u ht hu
      · rw [if_neg q2] at hu
        by_cases q3 : j < k
        · rw [if_pos q3] at ht
          by_cases q4 : l < k
          · rw [if_pos q4] at hu; exact cO j l j0 jl (by omega) t u ht hu
          · rw [if_neg q4] at hu; exact cO j (l - 1) j0 (by omega) (by omega) t u ht hu
        · rw [if_neg q3] at ht
          rw [if_neg (by omega)] at hu
          exact cO (j - 1) (l - 1) (by omega) (by omega) (by omega) t u ht hu
  · rw [m5]
    by_cases e : q = h
    · exact ⟨k, k0, by omega, by rw [cv k k0 (by omega), if_pos rfl, e]⟩
    · obtain ⟨j, j0, j1, j2⟩ := cM q q0 (by omega) hq
      by_cases r : j < k
      · exact ⟨j, j0, by omega, by rw [cv j j0 (by omega), if_neg (by omega), if_pos r]; exact j2⟩
      · exact ⟨j + 1, by omega, by omega, by rw [cv (j + 1) (by omega) (by omega), if_neg (by omega), if_neg (by omega), Int.add_sub_cancel]; exact j2⟩
end SNG
