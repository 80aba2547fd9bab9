section SNJ
abbrev ZL : List Nat := [kR_chain, kR_chainDen, kR_chainMany, kR_chainNum, kR_chainOpen, kR_chained, kR_highDen, kR_highNum, kR_highOpen, kR_lowDen, kR_lowNum, kR_lowOpen, kR_pieceBits, kR_pieceFrom, kR_pieceTo, kR_pieces]
abbrev YL : List Nat := [kR_chain, kR_chainDen, kR_chainMany, kR_chainNum, kR_chainOpen, kR_highDen, kR_highNum, kR_highOpen, kR_lowDen, kR_lowNum, kR_lowOpen]
theorem HO_zl {σ τ : SG} (h : FR ZL σ τ) : (HO τ ↔ HO σ) ∧ τ kR_hots 0 = σ kR_hots 0 ∧ ∀ i q t, PI τ i q t ↔ PI σ i q t := ⟨(HM_fr h (by decide) (by decide) (by decide)).2, FR_at h (by decide) 0, PI_fr h (by decide) (by decide) (by decide) (by decide) (by decide) (by decide)⟩
theorem isl_b {s : Int} (h : 0 ≤ s ∧ s ≤ 1) : q_isl 1 s = 1 ∨ q_isl 1 s = 2 := by
  have : s = 0 ∨ s = 1 := by omega
  rcases this with q | q <;> subst q
  · left; decide +kernel
  · right; decide +kernel
theorem CC_at {σ τ υ : SG} {i : Int} (h : CC σ τ i) (e1 : ∀ k, υ kR_chain k = τ kR_chain k) (e2 : υ kR_chainMany 0 = τ kR_chainMany 0) : CC σ υ i := by
  unfold CC at *
  simp only [e1, e2]; exact h
/-- the pieces of what was told -/
def PQ (σ τ : SG) (m : Int) : Prop := (PO (σ kR_hots 0) τ ∧ ∀ p q, PM τ p q → WT σ m p q) ∧ (τ kR_pieces 0 ≤ τ kR_chained 0 ∧ τ kR_chained 0 ≤ 16384) ∧ ∀ β g, 0 ≤ g → g < σ kR_hots 0 → PU τ β (dg_ g) = xs_ m.toNat (fun j : Nat => bq_ β (q_isl 1 (σ kR_shapeOf j)) && Bool.xor (st_ σ g j) (sn_ σ g j))
theorem dg_if (g a b : Int) : dg_ g (if a < b then a else b) (if a < b then b else a) = Bool.xor (decide (a = g)) (decide (b = g)) := by
  unfold dg_
  by_cases h : a < b
  · rw [if_pos h, if_pos h]
  · rw [if_neg h, if_neg h, Bool.xor_comm]
theorem v_chains {σ : SG} (hσ : II σ) (hn : SN σ) (hs : σ kR_segments 0 ≤ 4199) (hh : HSo σ σ) : wp_ (fR_chains σ) (fun r => II r.2 ∧ FR [kR_chain, kR_chainDen, kR_chainMany, kR_chainNum, kR_chainOpen, kR_chained, kR_highDen, kR_highNum, kR_highOpen, kR_lowDen, kR_lowNum, kR_lowOpen, kR_pieceBits, kR_pieceFrom, kR_pieceTo, kR_pieces] σ r.2 ∧ (r.1 = true → PQ σ r.2 (σ kR_segments 0))) := by
  unfold fR_chains
  obtain ⟨⟨ho, hnr⟩, hends, -⟩ := hh
  have bs := ii_kR_segments hσ 0
  have bh := ii_kR_hots hσ 0
  refine wp_wfI hσ b_kR_chained (by decide) (fun σ1 h1 e1 => ?_)
  refine wp_wfI h1 b_kR_pieces (by decide) (fun σ2 h2 e2 => ?_)
  have f2 : FR ZL σ σ2 := FR_tr (FR_sg e1) (FR_sg e2) (by decide) (by decide)
  have p2 : σ2 kR_pieces 0 = 0 := sg_val e2
  have c2 : σ2 kR_chained 0 = 0 := by rw [e2, sg_nc (by decide)]; exact sg_val e1
  have near : ∀ g, 0 ≤ g → g < σ kR_hots 0 → nr_ (σ kR_hotX g) ∧ nr_ (σ kR_hotY g) := fun g g0 g1 => hnr _ _ ⟨g, g0, g1, rfl, rfl⟩
  refine wp_bx (P := fun s => II s.2 ∧ FR ZL σ s.2 ∧ PQ σ s.2 (σ kR_segments 0)) ?_ (fun s h => wp_some ⟨h.1, h.2.1, fun _ => h.2.2⟩)
  refine wp_whl (fun s => 0 ≤ s.1 ∧ s.1 ≤ σ kR_segments 0 ∧ II s.2 ∧ FR ZL σ s.2 ∧ PQ σ s.2 s.1) (fun s => (σ kR_segments 0 - s.1).toNat) ⟨Int.le_refl 0, bs.1, h2, f2, ⟨⟨fun k k0 k1 => by dsimp only at k1; omega, fun j k j0 jk k1 => by dsimp only at k1; omega⟩, fun p q h => by obtain ⟨k, k0, k1, -⟩ := h; dsimp only at k1; omega⟩, ⟨by dsimp only; omega, by dsimp only; omega⟩, fun β g g0 g1 => by unfold PU; dsimp only; rw [p2]; rfl⟩ ?_
  rintro ⟨i, τ⟩ ⟨i0, i1, hτ, hf, ⟨⟨pO, pW⟩, ⟨pc, cc⟩, pU⟩⟩
  dsimp only at i0 i1 hτ hf pO pW pc cc pU ⊢
  have sg0 : τ kR_segments 0 = σ kR_segments 0 := FR_at hf (by decide) 0
  rw [sg0, w32_of (x := i) (by omega) (by omega), w32_of (x := σ kR_segments 0) (by omega) (by omega)]
  refine wp_if (fun g => ?_) (fun g => wp_ir (x_inl ⟨hτ, hf, by have : i = σ kR_segments 0 := by omega
                                                                rw [← this]; exact ⟨⟨pO, pW⟩, ⟨pc, cc⟩, pU⟩⟩))
  obtain ⟨⟨a1, a1'⟩, ⟨a2, a2'⟩, ⟨a3, a3'⟩, a4, a4'⟩ := hn i i0 g
  refine wp_wfI hτ b_kR_chainMany (by decide) (fun σ3 h3 e3 => ?_)
  have f3 : FR ZL σ σ3 := FR_tr hf (FR_sg e3) (by decide) (by decide)
  have m3 : σ3 kR_chainMany 0 = 0 := sg_val e3
  have x3 : σ3 kR_sx i = σ kR_sx i := FR_at f3 (by decide) i
  have y3 : σ3 kR_ex i = σ kR_ex i := FR_at f3 (by decide) i
  have ho3 : HO σ3 := (HO_zl f3).1.mpr ho
  refine wp_bd (P := fun v => v = if σ kR_sx i < σ kR_ex i then σ kR_sx i else σ kR_ex i) ?_ ?_
  · refine wp_rd i0 (by omega) (wp_rd i0 (by omega) ?_)
    rw [x3, y3, w64_of (x := σ kR_sx i) (by omega) (by omega), w64_of (x := σ kR_ex i) (by omega) (by omega)]
    refine wp_if (fun c => ?_) (fun c => ?_)
    · exact wp_rd i0 (by omega) (wp_some (by rw [if_pos c, x3]))
    · exact wp_rd i0 (by omega) (wp_some (by rw [if_neg c, y3]))
  rintro lo - elo
  refine wp_bd (P := fun v => v = if σ kR_sx i < σ kR_ex i then σ kR_ex i else σ kR_sx i) ?_ ?_
  · refine wp_rd i0 (by omega) (wp_rd i0 (by omega) ?_)
    rw [x3, y3, w64_of (x := σ kR_sx i) (by omega) (by omega), w64_of (x := σ kR_ex i) (by omega) (by omega)]
    refine wp_if (fun c => ?_) (fun c => ?_)
    · exact wp_rd i0 (by omega) (wp_some (by rw [if_pos c, y3]))
    · exact wp_rd i0 (by omega) (wp_some (by rw [if_neg c, x3]))
  rintro hi - ehi
  have blo : -500000000 ≤ lo ∧ lo ≤ 500000000 := by rw [elo]; split <;> omega
  have bhi : -500000000 ≤ hi ∧ hi ≤ 500000000 := by rw [ehi]; split <;> omega
  have box : ∀ q t, PI σ i q t → lo ≤ σ kR_hotX q ∧ σ kR_hotX q ≤ hi := fun q t h => by rw [elo, ehi]; exact PI_box h
  have hz3 : σ3 kR_hots 0 = σ kR_hots 0 := (HO_zl f3).2.1
  have hx3 : ∀ j, σ3 kR_hotX j = σ kR_hotX j := FR_at f3 (by decide)
  refine wp_bd (v_hotAt h3 ho3 (x := hi + 2) (y := -4000000000) (by omega) (by omega)) ?_
  rintro T - ⟨T0, T1, -, Tb⟩
  refine wp_bd (v_hotAt h3 ho3 (x := lo - 1) (y := -4000000000) (by omega) (by omega)) ?_
  rintro L - ⟨L0, L1, La, -⟩
  rw [hz3] at T1 L1 Tb
  have hall : ∀ q, 0 ≤ q → q < σ kR_hots 0 → (∃ t, PI σ i q t) → L ≤ q ∧ q < T := by
    rintro q q0 q1 ⟨t, ht⟩
    obtain ⟨b1, b2⟩ := box q t ht
    constructor
    · by_cases c : q < L
      · have := La q q0 c
        rw [hx3] at this
        unfold lx_ at this; omega
      · omega
    · by_cases c : q < T
      · exact c
      · have := Tb q (by omega) q1
        rw [hx3] at this
        unfold lx_ at this; omega
  -- the pixels that it meets
  refine wp_bd (P := fun s => II s.2 ∧ FR YL σ3 s.2 ∧ CC σ s.2 i) ?_ ?_
  · refine wp_whl (fun s => L ≤ s.1 ∧ (L ≤ T → s.1 ≤ T) ∧ (T < L → s.1 = L) ∧ II s.2 ∧ FR YL σ3 s.2 ∧ CH σ s.2 i L s.1) (fun s => (T - s.1).toNat) ⟨Int.le_refl L, fun q => q, fun _ => rfl, h3, FR_refl _ _, ⟨by dsimp only; omega, fun k k0 k1 => by dsimp only at k1; omega, fun j k j0 jk k1 => by dsimp only at k1; omega, fun q q0 q1 => by dsimp only at q1; omega⟩⟩ ?_
    rintro ⟨h, υ⟩ ⟨hL, hT, hT', hυ, fυ, cυ⟩
    dsimp only at hL hT hT' hυ fυ cυ ⊢
    rw [w32_of (x := h) (by omega) (by omega), w32_of (x := T) (by omega) (by omega)]
    refine wp_if (fun gh => ?_) (fun gh => wp_ir ⟨hυ, fυ, CC_of cυ L0 (by omega) (fun q q0 q1 hq => by have := hall q q0 q1 hq; omega)⟩)
    have fZ : FR ZL σ υ := FR_tr f3 fυ (by decide) (by decide)
    have w1 : υ kR_sx i = σ kR_sx i := FR_at fZ (by decide) i
    have w2 : υ kR_sy i = σ kR_sy i := FR_at fZ (by decide) i
    have w3 : υ kR_ex i = σ kR_ex i := FR_at fZ (by decide) i
    have w4 : υ kR_ey i = σ kR_ey i := FR_at fZ (by decide) i
    have w5 : υ kR_hotX h = σ kR_hotX h := FR_at fZ (by decide) h
    have w6 : υ kR_hotY h = σ kR_hotY h := FR_at fZ (by decide) h
    have nn := near h (by omega) (by omega)
    have pf : ∀ t, PI υ i h t ↔ PI σ i h t := fun t => (HO_zl fZ).2.2 i h t
    refine wp_bd (P := fun ω => II ω ∧ FR YL σ3 ω ∧ CH σ ω i L (h + 1)) ?_ ?_
    · refine wp_bd (v_meetsPixel hυ i0 (by omega) (by omega) (by omega) (by rw [w1]; exact ⟨a1, a1'⟩) (by rw [w2]; exact ⟨a2, a2'⟩) (by rw [w3]; exact ⟨a3, a3'⟩) (by rw [w4]; exact ⟨a4, a4'⟩) (by rw [w5]; exact nn.1) (by rw [w6]; exact nn.2)) ?_
      rintro ⟨b, ω⟩ - ⟨hω, fω, rω, ty, nt⟩
      dsimp only at hω fω rω ty nt ⊢
      have fω' : FR YL σ3 ω := FR_tr fυ fω (by decide) (by decide)
      have d1 : ω kR_chainMany 0 = υ kR_chainMany 0 := FR_at fω (by decide) 0
      have d2 : ∀ k, ω kR_chain k = υ kR_chain k := FR_at fω (by decide)
      have d3 : ∀ k, ω kR_chainNum k = υ kR_chainNum k := FR_at fω (by decide)
      have d4 : ∀ k, ω kR_chainDen k = υ kR_chainDen k := FR_at fω (by decide)
      have d5 : ∀ k, ω kR_chainOpen k = υ kR_chainOpen k := FR_at fω (by decide)
      have cω : CH σ ω i L h := by
        unfold CH EN at cυ ⊢
        simp only [d1, d2, d3, d4, d5]; exact cυ
      refine wp_if (fun gb => ?_) (fun gb => wp_some ⟨hω, fω', ?_⟩)
      · obtain ⟨t1, t2⟩ := ty gb
        refine wp_bd (v_link (σ := σ) hω ho rω L0 hL (by omega) bh.2 cω (fun t => (t1 t).trans (pf t)) (by obtain ⟨t, ht⟩ := t2; exact ⟨t, (pf t).mp ht⟩)) ?_
        rintro ψ - ⟨hψ, fψ, cψ⟩
        exact wp_some ⟨hψ, FR_tr fω' fψ (by decide) (by decide), cψ⟩
      · have no := nt (Bool.eq_false_iff.mpr gb)
        obtain ⟨⟨c0, c1⟩, cE, cO, cM⟩ := cω
        refine ⟨⟨c0, by omega⟩, fun k k0 k1 => ?_, cO, fun q q0 q1 hq => ?_⟩
        · obtain ⟨x1, x2, x3⟩ := cE k k0 k1
          exact ⟨x1, x2, by omega⟩
        · by_cases e : q = h
          · obtain ⟨t, ht⟩ := hq
            rw [e] at ht
            exact absurd ((pf t).mpr ht) (no t)
          · exact cM q q0 (by omega) hq
    rintro ω - ⟨hω, fω, cω⟩
    exact wp_il ⟨⟨by dsimp only; omega, fun q => by dsimp only; omega, fun q => by dsimp only; omega, hω, fω, cω⟩, by dsimp only; omega⟩
  rintro ⟨h', σ4⟩ - ⟨h4, f4, c4⟩
  dsimp only at h4 f4 c4 ⊢
  have z4 : σ4 kR_chained 0 = τ kR_chained 0 := by rw [FR_at f4 (by decide) 0, e3, sg_nc (by decide)]
  have q4 : σ4 kR_pieces 0 = τ kR_pieces 0 := by rw [FR_at f4 (by decide) 0, e3, sg_nc (by decide)]
  have k41 : ∀ j, σ4 kR_pieceFrom j = τ kR_pieceFrom j := fun j => by rw [FR_at f4 (by decide) j, e3, sg_nc (by decide)]
  have k42 : ∀ j, σ4 kR_pieceTo j = τ kR_pieceTo j := fun j => by rw [FR_at f4 (by decide) j, e3, sg_nc (by decide)]
  have k43 : ∀ j, σ4 kR_pieceBits j = τ kR_pieceBits j := fun j => by rw [FR_at f4 (by decide) j, e3, sg_nc (by decide)]
  have b4 := ii_kR_chained hτ 0
  have n4 := c4.1
  rw [z4]
  refine wp_wfI h4 b_kR_chained (by omega) (fun σ5 h5 e5 => ?_)
  have f5 : FR ZL σ σ5 := FR_tr (FR_tr f3 f4 (by decide) (by decide) : FR ZL σ σ4) (FR_sg e5) (by decide) (by decide)
  have v5 : σ5 kR_chained 0 = τ kR_chained 0 + σ4 kR_chainMany 0 := sg_val e5
  have l1 : ∀ k, σ5 kR_chain k = σ4 kR_chain k := fun k => by rw [e5, sg_nc (by decide)]
  have l2 : σ5 kR_chainMany 0 = σ4 kR_chainMany 0 := by rw [e5, sg_nc (by decide)]
  have c5 : CC σ σ5 i := CC_at c4 l1 l2
  have k51 : ∀ j, σ5 kR_pieceFrom j = τ kR_pieceFrom j := fun j => by rw [e5, sg_nc (by decide)]; exact k41 j
  have k52 : ∀ j, σ5 kR_pieceTo j = τ kR_pieceTo j := fun j => by rw [e5, sg_nc (by decide)]; exact k42 j
  have k53 : ∀ j, σ5 kR_pieceBits j = τ kR_pieceBits j := fun j => by rw [e5, sg_nc (by decide)]; exact k43 j
  have k54 : σ5 kR_pieces 0 = τ kR_pieces 0 := by rw [e5, sg_nc (by decide)]; exact q4
  have u5 : ∀ β s, PU σ5 β s = PU τ β s := fun β s => by unfold PU; simp only [k51, k52, k53, k54]
  have pm5 : ∀ p q, PM σ5 p q ↔ PM τ p q := fun p q => by unfold PM; simp only [k51, k52, k54]
  have po5 : PO (σ kR_hots 0) σ5 := by unfold PO at pO ⊢; simp only [k51, k52, k54]; exact pO
  rw [v5, w32_of (x := τ kR_chained 0 + σ4 kR_chainMany 0) (by omega) (by omega)]
  refine wp_if (fun gx => wp_ir (x_inr ⟨h5, f5, fun e => by cases e⟩)) (fun gx => ?_)
  obtain ⟨first1, first2⟩ := CC_first ho c5 (hends i i0 g).1
  have last := CC_last ho c5 (hends i i0 g).2
  rw [← l2] at v5 gx n4
  generalize hM : σ5 kR_chainMany 0 = M at *
  generalize hB : q_isl 1 (σ kR_shapeOf i) = B at *
  have bB : B = 1 ∨ B = 2 := by rw [← hB]; exact isl_b (ii_kR_shapeOf hσ i)
  -- its pieces
  refine wp_bd (P := fun s => II s.2 ∧ FR ZL σ s.2 ∧ PQ σ s.2 (i + 1)) ?_ (fun s _ h => wp_il ⟨⟨by dsimp only; omega, by dsimp only; omega, h.1, h.2.1, h.2.2⟩, by dsimp only; omega⟩)
  refine wp_whl (fun s => 1 ≤ s.1 ∧ s.1 ≤ M ∧ II s.2 ∧ FR QL σ5 s.2 ∧ PO (σ kR_hots 0) s.2 ∧ s.2 kR_pieces 0 ≤ τ kR_chained 0 + s.1 ∧ (∀ p q, PM s.2 p q → WT σ (i + 1) p q) ∧ (∀ β g, PU s.2 β (dg_ g) = Bool.xor (PU τ β (dg_ g)) (bq_ β B && Bool.xor (decide (σ5 kR_chain 0 = g)) (decide (σ5 kR_chain (s.1 - 1) = g))))) (fun s => (M - s.1).toNat) ⟨Int.le_refl 1, first1, h5, FR_refl _ _, po5, by dsimp only; omega, fun p q h => ?_, fun β gg => ?_⟩ ?_
  · dsimp only at h
    obtain ⟨j, j0, j1, j2⟩ := pW p q ((pm5 p q).mp h)
    exact ⟨j, j0, by omega, j2⟩
  · dsimp only
    rw [u5, show (1 : Int) - 1 = 0 by rfl]
    simp
  rintro ⟨k, υ⟩ ⟨k0, k1, hυ, fυ, oυ, nυ, wυ, uυ⟩
  dsimp only at k0 k1 hυ fυ oυ nυ wυ uυ ⊢
  have r1 : υ kR_chainMany 0 = M := by rw [← hM]; exact FR_at fυ (by decide) 0
  have r2 : ∀ j, υ kR_chain j = σ5 kR_chain j := FR_at fυ (by decide)
  have fυ' : FR ZL σ υ := FR_tr f5 fυ (by decide) (by decide)
  have r3 : υ kR_shapeOf i = σ kR_shapeOf i := FR_at fυ' (by decide) i
  have r4 : υ kR_chained 0 = τ kR_chained 0 + M := by rw [← v5]; exact FR_at fυ (by decide) 0
  simp only [r1]
  rw [w32_of (x := k) (by omega) (by omega), w32_of (x := M) (by omega) (by omega)]
  refine wp_if (fun gk => ?_) (fun gk => ?_)
  · rw [w32_of (x := k - 1) (by omega) (by omega)]
    refine wp_rd (by omega) (by omega) (wp_rd (by omega) (by omega) ?_)
    refine wp_rd i0 (by omega) ?_
    rw [r2, r2, r3, hB]
    have en := c5.2.1
    rw [hM] at en
    have e1 := (en (k - 1) (by omega) (by omega)).1
    have e2 := (en k (by omega) (by omega)).1
    have ne := CC_ne c5 (k := k - 1) (by omega) (by rw [hM]; omega)
    have pie := CC_pie ho c5 (k := k - 1) (by omega) (by rw [hM]; omega)
    rw [show k - 1 + 1 = k by omega] at ne pie
    refine wp_bd (v_addPiece hυ bh.2 oυ e1.1 e1.2 e2.1 e2.2 ne bB (by omega)) ?_
    rintro ω - ⟨hω, fω, oω, mω, uω, nω⟩
    refine wp_il ⟨⟨by dsimp only; omega, by dsimp only; omega, hω, FR_tr fυ fω (by decide) (by decide), oω, by dsimp only; omega, fun p q h => ?_, fun β gg => ?_⟩, by dsimp only; omega⟩
    · dsimp only at h
      rcases (mω p q).mp h with h | ⟨x1, x2⟩
      · exact wυ p q h
      · refine ⟨i, i0, by omega, ?_⟩
        rw [x1, x2]
        by_cases c : σ5 kR_chain (k - 1) < σ5 kR_chain k
        · rw [if_pos c, if_pos c]; exact pie
        · rw [if_neg c, if_neg c]; exact pie_symm pie
    · dsimp only
      rw [uω, uυ, dg_if, show k + 1 - 1 = k by omega]
      cases bq_ β B <;> cases PU τ β (dg_ gg) <;> cases decide (σ5 kR_chain 0 = gg) <;> cases decide (σ5 kR_chain (k - 1) = gg) <;> cases decide (σ5 kR_chain k = gg) <;> rfl
  · have ek : k = M := by omega
    refine wp_ir ⟨hυ, fυ', ⟨oυ, wυ⟩, ⟨by dsimp only; omega, by dsimp only; omega⟩, fun β gg g0 g1 => ?_⟩
    dsimp only
    rw [uυ, pU β gg g0 g1, ek, show (i + 1).toNat = i.toNat + 1 by omega]
    show _ = Bool.xor (xs_ i.toNat _) _
    dsimp only
    rw [show ((i.toNat : Nat) : Int) = i by omega, hB, first2 gg g0 g1, last gg g0 g1]
end SNJ
