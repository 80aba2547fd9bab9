section SNF
/-- the place of segment i at the part t of its way is in the pixel of hot place h -/
def PX (σ : SG) (i h : Int) (t : Rat) : Prop := px_ (σ kR_hotX h : Int) ((1 - t) * (σ kR_sx i : Int) + t * (σ kR_ex i : Int)) ∧ px_ (σ kR_hotY h : Int) ((1 - t) * (σ kR_sy i : Int) + t * (σ kR_ey i : Int))
def PI (σ : SG) (i h : Int) (t : Rat) : Prop := 0 ≤ t ∧ t ≤ 1 ∧ PX σ i h t
theorem ct_px (s e x : Int) (t : Rat) : ct_r (2 * s) (2 * (e - s)) (2 * x - 1) (2 * x + 1) t ↔ px_ (x : Int) ((1 - t) * (s : Int) + t * (e : Int)) := by
  unfold ct_r px_
  have e1 : ((2 * s : Int) : Rat) = 2 * (s : Rat) := Rat.intCast_mul _ _
  have e2 : ((2 * (e - s) : Int) : Rat) = 2 * ((e : Rat) - (s : Rat)) := by rw [Rat.intCast_mul, c_sub]; rfl
  have e3 : ((2 * x - 1 : Int) : Rat) = 2 * (x : Rat) - 1 := by rw [c_sub, Rat.intCast_mul]; rfl
  have e4 : ((2 * x + 1 : Int) : Rat) = 2 * (x : Rat) + 1 := by rw [Rat.intCast_add, Rat.intCast_mul]; rfl
  rw [e1, e2, e3, e4]
  constructor <;> intro h <;> constructor <;> grind
theorem v_meetsPixel {σ : SG} {i h : Int} (hσ : II σ) (i0 : 0 ≤ i) (i1 : i ≤ 4199) (h0 : 0 ≤ h) (h1 : h ≤ 8191) (n1 : nr_ (σ kR_sx i)) (n2 : nr_ (σ kR_sy i)) (n3 : nr_ (σ kR_ex i)) (n4 : nr_ (σ kR_ey i)) (n5 : nr_ (σ kR_hotX h)) (n6 : nr_ (σ kR_hotY h)) : wp_ (fR_meetsPixel σ i h) (fun r => II r.2 ∧ FR [kR_highDen, kR_highNum, kR_highOpen, kR_lowDen, kR_lowNum, kR_lowOpen] σ r.2 ∧ RB r.2 ∧ (r.1 = true → (∀ t, iv_ r.2 t ↔ PI σ i h t) ∧ ∃ t, PI σ i h t) ∧ (r.1 = false → ∀ t, ¬ PI σ i h t)) := by
  unfold fR_meetsPixel
  unfold nr_ at *
  refine wp_wfI hσ b_kR_lowNum (by decide) (fun σ1 q1 e1 => ?_)
  refine wp_wfI q1 b_kR_lowDen (by decide) (fun σ2 q2 e2 => ?_)
  refine wp_wfI q2 b_kR_lowOpen (bz_bd _) (fun σ3 q3 e3 => ?_)
  refine wp_wfI q3 b_kR_highNum (by decide) (fun σ4 q4 e4 => ?_)
  refine wp_wfI q4 b_kR_highDen (by decide) (fun σ5 q5 e5 => ?_)
  refine wp_wfI q5 b_kR_highOpen (bz_bd _) (fun σ6 q6 e6 => ?_)
  have f6 : FR CL σ σ6 := FR_tr (FR_tr (FR_tr (FR_tr (FR_tr (FR_le (FR_sg e1) (by decide) : FR CL σ σ1) (FR_sg e2) (by decide) (by decide) : FR CL σ σ2) (FR_sg e3) (by decide) (by decide) : FR CL σ σ3) (FR_sg e4) (by decide) (by decide) : FR CL σ σ4) (FR_sg e5) (by decide) (by decide) : FR CL σ σ5) (FR_sg e6) (by decide) (by decide)
  have v1 : σ6 kR_lowNum 0 = 0 := by rw [e6, sg_nc (by decide), e5, sg_nc (by decide), e4, sg_nc (by decide), e3, sg_nc (by decide), e2, sg_nc (by decide), e1, sg_at]
  have v2 : σ6 kR_lowDen 0 = 1 := by rw [e6, sg_nc (by decide), e5, sg_nc (by decide), e4, sg_nc (by decide), e3, sg_nc (by decide), e2, sg_at]
  have v3 : nz (σ6 kR_lowOpen 0) = false := by rw [e6, sg_nc (by decide), e5, sg_nc (by decide), e4, sg_nc (by decide), e3, sg_at]; rfl
  have v4 : σ6 kR_highNum 0 = 1 := by rw [e6, sg_nc (by decide), e5, sg_nc (by decide), e4, sg_at]
  have v5 : σ6 kR_highDen 0 = 1 := by rw [e6, sg_nc (by decide), e5, sg_at]
  have v6 : nz (σ6 kR_highOpen 0) = false := by rw [e6, sg_at]; rfl
  have r6 : RB σ6 := ⟨by omega, by omega, by omega, by omega⟩
  have iv0 : ∀ t, iv_ σ6 t ↔ 0 ≤ t ∧ t ≤ 1 := by
    intro t
    unfold iv_ lk_ hk_
    rw [v1, v2, v3, v4, v5, v6]
    have c0 : ((0 : Int) : Rat) = 0 := rfl
    have c1 : ((1 : Int) : Rat) = 1 := rfl
    rw [c0, c1]
    simp
  have keep : ∀ {τ : SG} {c : Nat}, FR CL σ τ → CL.contains c = false → ∀ k, τ c k = σ c k := fun f hc k => FR_at f hc k
  rw [w32_of (x := i) (by omega) (by omega), w32_of (x := h) (by omega) (by omega)]
  refine wp_rd h0 (by omega) (wp_rd h0 (by omega) ?_)
  rw [keep f6 (c := kR_hotX) (by decide), keep f6 (c := kR_hotY) (by decide)]
  refine wp_bd (P := fun r => II r.2 ∧ FR CL σ r.2 ∧ RB r.2 ∧ (r.1 = true → (∀ t, iv_ r.2 t ↔ PI σ i h t) ∧ ∃ t, PI σ i h t) ∧ (r.1 = false → ∀ t, ¬ PI σ i h t)) ?_ (fun r _ hr => wp_some hr)
  refine wp_rd i0 (by omega) (wp_rd i0 (by omega) (wp_rd i0 (by omega) ?_))
  rw [keep f6 (c := kR_sx) (by decide), keep f6 (c := kR_ex) (by decide)]
  refine wp_bd (v_cuts q6 r6 (by omega) (by omega) (by omega) (by omega)) ?_
  rintro ⟨x, σ7⟩ - ⟨h7, f7, r7, a7, b7, c7⟩
  dsimp only at h7 f7 r7 a7 b7 c7 ⊢
  have f7' : FR CL σ σ7 := FR_tr f6 f7 (by decide) (by decide)
  refine wp_if (fun gx => ?_) (fun gx => ?_)
  · have a7 := a7 gx
    refine wp_rd i0 (by omega) (wp_rd i0 (by omega) (wp_rd i0 (by omega) ?_))
    rw [keep f7' (c := kR_sy) (by decide), keep f7' (c := kR_ey) (by decide)]
    refine wp_bd (v_cuts h7 r7 (by omega) (by omega) (by omega) (by omega)) ?_
    rintro ⟨y, σ8⟩ - ⟨h8, f8, r8, a8, b8, c8⟩
    dsimp only at h8 f8 r8 a8 b8 c8 ⊢
    have f8' : FR CL σ σ8 := FR_tr f7' f8 (by decide) (by decide)
    have all : ∀ t, PI σ i h t ↔ iv_ σ7 t ∧ ct_r (2 * σ kR_sy i) (2 * (σ kR_ey i - σ kR_sy i)) (2 * σ kR_hotY h - 1) (2 * σ kR_hotY h + 1) t := by
      intro t
      rw [a7, iv0, ct_px, ct_px]
      unfold PI PX
      exact ⟨fun q => ⟨⟨⟨q.1, q.2.1⟩, q.2.2.1⟩, q.2.2.2⟩, fun q => ⟨q.1.1.1, q.1.1.2, q.1.2, q.2⟩⟩
    refine wp_if (fun gy => ?_) (fun gy => ?_)
    · have e : ∀ t, iv_ σ8 t ↔ PI σ i h t := fun t => (a8 gy t).trans (all t).symm
      obtain ⟨t, ht⟩ := c8 gy (c7 gx ⟨0, (iv0 0).mpr ⟨by decide, by decide⟩⟩)
      exact wp_some ⟨h8, f8', r8, fun _ => ⟨e, t, (e t).mp ht⟩, fun q => by cases q⟩
    · refine wp_some ⟨h8, f8', r8, fun q => (by cases q), fun _ t ht => ?_⟩
      have := (all t).mp ht
      exact b8 (Bool.eq_false_iff.mpr gy) t this.1 this.2
  · refine wp_some ⟨h7, f7', r7, fun q => (by cases q), fun _ t ht => ?_⟩
    have p := ht.2.2.1
    rw [← ct_px] at p
    exact b7 (Bool.eq_false_iff.mpr gx) t ((iv0 t).mpr ⟨ht.1, ht.2.1⟩) p
/-- of two parts of a way that have nothing in common the one that begins first is the first -/
theorem iv_ord {n d m e hn hd hm he : Rat} {o p oh ph : Bool} (hd0 : 0 < d) (he0 : 0 < e) (hhd : 0 < hd) (hdis : ∀ t, ¬ ((lk_ n d o t ∧ hk_ hn hd oh t) ∧ (lk_ m e p t ∧ hk_ hm he ph t))) (hlow : n * e < m * d ∨ (n * e = m * d ∧ ¬ (o = true ∧ p = false))) {t u : Rat} (ht : lk_ n d o t ∧ hk_ hn hd oh t) (hu : lk_ m e p u ∧ hk_ hm he ph u) : t < u := by
  rcases gm_tri t u with q | q | q
  · exact q
  · exfalso; rw [← q] at hu; exact hdis t ⟨ht, hu⟩
  · exfalso
    refine hdis u ⟨⟨?_, ?_⟩, hu⟩
    · have h1 := hu.1
      have key : n * e ≤ u * d * e ∧ (n * e < m * d → n * e < u * d * e) ∧ (m < u * e → n * e < u * d * e) := by
        have l : m ≤ u * e := by unfold lk_ at h1; cases p <;> simp at h1 <;> grind
        have k := mul_le hd0 l
        refine ⟨?_, fun h => ?_, fun h => ?_⟩
        · rcases hlow with h | ⟨h, -⟩ <;> grind
        · grind
        · have := mul_lt hd0 h
          rcases hlow with h2 | ⟨h2, -⟩ <;> grind
      unfold lk_
      rcases hlow with h2 | ⟨h2, h3⟩
      · have := lt_of_mul he0 (key.2.1 h2)
        cases o <;> simp <;> grind
      · cases ho : o with
        | false => simp; exact le_of_mul he0 key.1
        | true =>
          have hp : p = true := by cases hp : p; exact absurd ⟨ho, hp⟩ h3; rfl
          rw [hp] at h1
          unfold lk_ at h1
          simp at h1 ⊢
          exact lt_of_mul he0 (key.2.2 h1)
    · have h1 := ht.2
      have := mul_lt hhd q
      unfold hk_ at h1 ⊢
      cases oh <;> simp at h1 ⊢ <;> grind
end SNF
