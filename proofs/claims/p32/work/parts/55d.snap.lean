section SND
/-- the same segments -/
abbrev HL : List Nat := [kR_hotX, kR_hotY, kR_hots, kR_isInner, kR_meetX, kR_meetY]
def SE (σ τ : SG) : Prop := (∀ i, τ kR_sx i = σ kR_sx i) ∧ (∀ i, τ kR_sy i = σ kR_sy i) ∧ (∀ i, τ kR_ex i = σ kR_ex i) ∧ (∀ i, τ kR_ey i = σ kR_ey i) ∧ τ kR_segments 0 = σ kR_segments 0
theorem SE_fr {ms : List Nat} {σ τ : SG} (h : FR ms σ τ) (h1 : ms.contains kR_sx = false) (h2 : ms.contains kR_sy = false) (h3 : ms.contains kR_ex = false) (h4 : ms.contains kR_ey = false) (h5 : ms.contains kR_segments = false) : SE σ τ := ⟨FR_at h h1, FR_at h h2, FR_at h h3, FR_at h h4, FR_at h h5 0⟩
theorem SE_TS {σ τ : SG} (h : SE σ τ) (i x y : Int) : TS τ i x y = TS σ i x y := by unfold TS; rw [h.1, h.2.1, h.2.2.1, h.2.2.2.1]
theorem SE_PC {σ τ : SG} (h : SE σ τ) (i j : Int) : PC τ i j ↔ PC σ i j := by unfold PC; rw [SE_TS h, SE_TS h, SE_TS h, SE_TS h, h.1, h.1, h.2.1, h.2.1, h.2.2.1, h.2.2.1, h.2.2.2.1, h.2.2.2.1]
theorem SE_SN {σ τ : SG} (h : SE σ τ) (k : SN σ) : SN τ := by
  intro i i0 i1
  rw [h.2.2.2.2] at i1
  rw [h.1, h.2.1, h.2.2.1, h.2.2.2.1]; exact k i i0 i1
theorem SE_cx {σ τ : SG} (h : SE σ τ) (i j p q : Int) : CX τ i (sd_ τ i j * nu_ τ i j) (sd_ τ i j * de_ τ i j) p q ↔ CX σ i (sd_ σ i j * nu_ σ i j) (sd_ σ i j * de_ σ i j) p q := by
  have e1 : nu_ τ i j = nu_ σ i j := by unfold nu_; rw [SE_TS h, h.1, h.2.1]
  have e2 : de_ τ i j = de_ σ i j := by unfold de_; rw [SE_TS h, SE_TS h, h.1, h.2.1, h.2.2.1, h.2.2.2.1]
  have e3 : sd_ τ i j = sd_ σ i j := by unfold sd_; rw [e2]
  unfold CX
  rw [e1, e2, e3, h.1, h.2.1, h.2.2.1, h.2.2.2.1]
theorem v_isAlike {σ : SG} {i : Int} (hσ : II σ) (i0 : 0 ≤ i) (i1 : i ≤ 4199) : wp_ (fR_isAlike σ i) (fun b => b = true ↔ (σ kR_sx i = σ kR_ex i ∧ σ kR_sy i = σ kR_ey i)) := by
  unfold fR_isAlike
  have b1 := ii_kR_sx hσ i
  have b2 := ii_kR_sy hσ i
  have b3 := ii_kR_ex hσ i
  have b4 := ii_kR_ey hσ i
  rw [w32_of (x := i) (by omega) (by omega)]
  refine wp_bd (P := fun b => b = true ↔ (σ kR_sx i = σ kR_ex i ∧ σ kR_sy i = σ kR_ey i)) ?_ (fun _ _ h => wp_some h)
  refine wp_rd i0 (by omega) (wp_rd i0 (by omega) ?_)
  rw [w64_of (x := σ kR_sx i) (by omega) (by omega), w64_of (x := σ kR_ex i) (by omega) (by omega)]
  refine wp_if (fun g => ?_) (fun g => wp_some (by simp; omega))
  refine wp_rd i0 (by omega) (wp_rd i0 (by omega) ?_)
  rw [w64_of (x := σ kR_sy i) (by omega) (by omega), w64_of (x := σ kR_ey i) (by omega) (by omega)]
  refine wp_if (fun g => wp_some (by simp; omega)) (fun g => wp_some (by simp; omega))
theorem PC_al {σ : SG} {i j : Int} (h : PC σ i j) : ¬ (σ kR_sx i = σ kR_ex i ∧ σ kR_sy i = σ kR_ey i) ∧ ¬ (σ kR_sx j = σ kR_ex j ∧ σ kR_sy j = σ kR_ey j) := by
  unfold PC TS at h
  constructor
  · rintro ⟨e1, e2⟩
    have z : ∀ x y, oi_ (σ kR_sx i) (σ kR_sy i) (σ kR_ex i) (σ kR_ey i) x y = 0 := by intro x y; unfold oi_; rw [e1, e2]; grind
    rw [z, z] at h; omega
  · rintro ⟨e1, e2⟩
    have z : ∀ x y, oi_ (σ kR_sx j) (σ kR_sy j) (σ kR_ex j) (σ kR_ey j) x y = 0 := by intro x y; unfold oi_; rw [e1, e2]; grind
    rw [z, z] at h; omega
/-- the hot pixels: sorted; those of all ends and crossings are there -/
def HSo (σ τ : SG) : Prop := (HO τ ∧ ∀ p q, HM τ p q → nr_ p ∧ nr_ q) ∧ (∀ i, 0 ≤ i → i < σ kR_segments 0 → HM τ (σ kR_sx i) (σ kR_sy i) ∧ HM τ (σ kR_ex i) (σ kR_ey i)) ∧ (∀ i j, 0 ≤ i → i < j → j < σ kR_segments 0 → PC σ i j → ∃ p q, HM τ p q ∧ CX σ i (sd_ σ i j * nu_ σ i j) (sd_ σ i j * de_ σ i j) p q)
theorem HM_fr {ms : List Nat} {σ τ : SG} (h : FR ms σ τ) (h1 : ms.contains kR_hotX = false) (h2 : ms.contains kR_hotY = false) (h3 : ms.contains kR_hots = false) : (∀ p q, HM τ p q ↔ HM σ p q) ∧ (HO τ ↔ HO σ) := by
  have e1 : τ kR_hotX = σ kR_hotX := funext (FR_at h h1)
  have e2 : τ kR_hotY = σ kR_hotY := funext (FR_at h h2)
  have e3 : τ kR_hots 0 = σ kR_hots 0 := FR_at h h3 0
  constructor
  · intro p q; unfold HM; rw [e1, e2, e3]
  · unfold HO; rw [e1, e2, e3]
theorem v_heats {σ : SG} (hσ : II σ) (hn : SN σ) (hs : σ kR_segments 0 ≤ 4199) : wp_ (fR_heats σ) (fun r => II r.2 ∧ FR [kR_hotX, kR_hotY, kR_hots, kR_isInner, kR_meetX, kR_meetY] σ r.2 ∧ (r.1 = true → HSo σ r.2)) := by
  unfold fR_heats
  have bs := ii_kR_segments hσ 0
  refine wp_wfI hσ b_kR_hots (by decide) (fun σ1 h1 e1 => ?_)
  have f1 : FR HL σ σ1 := FR_le (FR_sg e1) (by decide)
  have n1 : σ1 kR_hots 0 = 0 := sg_val e1
  have o1 : HO σ1 ∧ ∀ p q, HM σ1 p q → nr_ p ∧ nr_ q := ⟨fun i j i0 ij j1 => by omega, fun p q h => by obtain ⟨k, k0, k1, -⟩ := h; omega⟩
  have SEof : ∀ {τ : SG}, FR HL σ τ → SE σ τ := fun h => SE_fr h (by decide) (by decide) (by decide) (by decide) (by decide)
  refine wp_bx (P := fun s => II s.2 ∧ FR HL σ s.2 ∧ (HO s.2 ∧ ∀ p q, HM s.2 p q → nr_ p ∧ nr_ q) ∧ ∀ i, 0 ≤ i → i < σ kR_segments 0 → HM s.2 (σ kR_sx i) (σ kR_sy i) ∧ HM s.2 (σ kR_ex i) (σ kR_ey i)) ?_ ?_
  · refine wp_whl (fun s => 0 ≤ s.1 ∧ s.1 ≤ σ kR_segments 0 ∧ II s.2 ∧ FR HL σ s.2 ∧ (HO s.2 ∧ ∀ p q, HM s.2 p q → nr_ p ∧ nr_ q) ∧ ∀ i, 0 ≤ i → i < s.1 → HM s.2 (σ kR_sx i) (σ kR_sy i) ∧ HM s.2 (σ kR_ex i) (σ kR_ey i)) (fun s => (σ kR_segments 0 - s.1).toNat) ⟨Int.le_refl 0, bs.1, h1, f1, o1, fun i i0 i1 => by dsimp only at i1; omega⟩ ?_
    rintro ⟨i, τ⟩ ⟨i0, i1, hτ, hf, ho, hm⟩
    dsimp only at i0 i1 hτ hf ho hm ⊢
    have se := SEof hf
    simp only [se.2.2.2.2]
    rw [w32_of (x := i) (by omega) (by omega), w32_of (x := σ kR_segments 0) (by omega) (by omega)]
    refine wp_if (fun g => ?_) (fun g => wp_ir (x_inl ⟨hτ, hf, ho, fun i i0 i1 => hm i i0 (by omega)⟩))
    obtain ⟨a1, a2, a3, a4⟩ := hn i i0 g
    refine wp_rd i0 (by omega) (wp_rd i0 (by omega) ?_)
    rw [se.1, se.2.1]
    refine wp_bd (v_addHot hτ ho.1 (by omega) (by omega)) ?_
    rintro ⟨x, σ2⟩ - ⟨h2, f2, o2, m2⟩
    dsimp only at h2 f2 o2 m2 ⊢
    have f2' : FR HL σ σ2 := FR_tr hf f2 (by decide) (by decide)
    have se2 := SEof f2'
    refine wp_if (fun gx => ?_) (fun gx => wp_ir (x_inr ⟨h2, f2', fun e => by cases e⟩))
    refine wp_rd i0 (by omega) (wp_rd i0 (by omega) ?_)
    rw [se2.2.2.1, se2.2.2.2.1]
    refine wp_bd (v_addHot h2 o2 (by omega) (by omega)) ?_
    rintro ⟨y, σ3⟩ - ⟨h3, f3, o3, m3⟩
    dsimp only at h3 f3 o3 m3 ⊢
    have f3' : FR HL σ σ3 := FR_tr f2' f3 (by decide) (by decide)
    refine wp_if (fun gy => ?_) (fun gy => wp_ir (x_inr ⟨h3, f3', fun e => by cases e⟩))
    refine wp_il ⟨⟨by dsimp only; omega, by dsimp only; omega, h3, f3', ⟨o3, fun p q h => ?_⟩, fun k k0 k1 => ?_⟩, by dsimp only; omega⟩
    · dsimp only at h
      rw [m3 gy, m2 gx] at h
      rcases h with (h | h) | h
      · exact ho.2 p q h
      · rw [h.1, h.2]; exact ⟨a1, a2⟩
      · rw [h.1, h.2]; exact ⟨a3, a4⟩
    dsimp only at k1 ⊢
    rw [m3 gy, m3 gy, m2 gx, m2 gx]
    by_cases e : k = i
    · rw [e]; exact ⟨Or.inl (Or.inr ⟨rfl, rfl⟩), Or.inr ⟨rfl, rfl⟩⟩
    · have := hm k k0 (by omega)
      exact ⟨Or.inl (Or.inl this.1), Or.inl (Or.inl this.2)⟩
  rintro ⟨i, σ4⟩ ⟨h4, f4, o4, m4⟩
  dsimp only at h4 f4 o4 m4 ⊢
  refine wp_bx (P := fun s => II s.2 ∧ FR HL σ s.2 ∧ HSo σ s.2) ?_ (fun s h => wp_some ⟨h.1, h.2.1, fun _ => h.2.2⟩)
  refine wp_whl (fun s => 0 ≤ s.1 ∧ s.1 ≤ σ kR_segments 0 ∧ II s.2 ∧ FR HL σ s.2 ∧ (HO s.2 ∧ ∀ p q, HM s.2 p q → nr_ p ∧ nr_ q) ∧ (∀ i, 0 ≤ i → i < σ kR_segments 0 → HM s.2 (σ kR_sx i) (σ kR_sy i) ∧ HM s.2 (σ kR_ex i) (σ kR_ey i)) ∧ (∀ i j, 0 ≤ i → i < s.1 → i < j → j < σ kR_segments 0 → PC σ i j → ∃ p q, HM s.2 p q ∧ CX σ i (sd_ σ i j * nu_ σ i j) (sd_ σ i j * de_ σ i j) p q)) (fun s => (σ kR_segments 0 - s.1).toNat) ⟨Int.le_refl 0, bs.1, h4, f4, o4, m4, fun i j i0 i1 => by dsimp only at i1; omega⟩ ?_
  rintro ⟨i, τ⟩ ⟨i0, i1, hτ, hf, ho, hm, hc⟩
  dsimp only at i0 i1 hτ hf ho hm hc ⊢
  have se := SEof hf
  simp only [se.2.2.2.2]
  rw [w32_of (x := i) (by omega) (by omega), w32_of (x := σ kR_segments 0) (by omega) (by omega)]
  refine wp_if (fun g => ?_) (fun g => wp_ir (x_inl ⟨hτ, hf, ho, hm, fun i j i0 ij j1 => hc i j i0 (by omega) ij j1⟩))
  refine wp_bd (v_isAlike hτ i0 (by omega)) ?_
  rintro al - hal
  rw [se.1, se.2.1, se.2.2.1, se.2.2.2.1] at hal
  have step : ∀ υ, II υ → FR HL σ υ → (HO υ ∧ ∀ p q, HM υ p q → nr_ p ∧ nr_ q) → (∀ p q, HM τ p q → HM υ p q) → (∀ j, i < j → j < σ kR_segments 0 → PC σ i j → ∃ p q, HM υ p q ∧ CX σ i (sd_ σ i j * nu_ σ i j) (sd_ σ i j * de_ σ i j) p q) → (0 ≤ i + 1 ∧ i + 1 ≤ σ kR_segments 0 ∧ II υ ∧ FR HL σ υ ∧ (HO υ ∧ ∀ p q, HM υ p q → nr_ p ∧ nr_ q) ∧ (∀ i, 0 ≤ i → i < σ kR_segments 0 → HM υ (σ kR_sx i) (σ kR_sy i) ∧ HM υ (σ kR_ex i) (σ kR_ey i)) ∧ (∀ k j, 0 ≤ k → k < i + 1 → k < j → j < σ kR_segments 0 → PC σ k j → ∃ p q, HM υ p q ∧ CX σ k (sd_ σ k j * nu_ σ k j) (sd_ σ k j * de_ σ k j) p q)) := by
    intro υ hυ fυ oυ mono new
    refine ⟨by omega, by omega, hυ, fυ, oυ, fun k k0 k1 => ⟨mono _ _ (hm k k0 k1).1, mono _ _ (hm k k0 k1).2⟩, fun k j k0 k1 kj j1 pc => ?_⟩
    by_cases e : k = i
    · rw [e] at kj pc ⊢; exact new j kj j1 pc
    · obtain ⟨p, q, a, b⟩ := hc k j k0 (by omega) kj j1 pc
      exact ⟨p, q, mono p q a, b⟩
  refine wp_if (fun ga => ?_) (fun ga => ?_)
  · exact wp_il ⟨step τ hτ hf ho (fun _ _ h => h) (fun j _ _ pc => absurd (hal.mp ga) (PC_al pc).1), by dsimp only; omega⟩
  refine wp_bx (P := fun s => II s.2 ∧ FR HL σ s.2 ∧ (HO s.2 ∧ ∀ p q, HM s.2 p q → nr_ p ∧ nr_ q) ∧ (∀ p q, HM τ p q → HM s.2 p q) ∧ (∀ j, i < j → j < σ kR_segments 0 → PC σ i j → ∃ p q, HM s.2 p q ∧ CX σ i (sd_ σ i j * nu_ σ i j) (sd_ σ i j * de_ σ i j) p q)) ?_ (fun s h => wp_il ⟨step s.2 h.1 h.2.1 h.2.2.1 h.2.2.2.1 h.2.2.2.2, by dsimp only; omega⟩)
  refine wp_whl (fun s => i < s.1 ∧ s.1 ≤ σ kR_segments 0 ∧ II s.2 ∧ FR HL σ s.2 ∧ (HO s.2 ∧ ∀ p q, HM s.2 p q → nr_ p ∧ nr_ q) ∧ (∀ p q, HM τ p q → HM s.2 p q) ∧ (∀ j, i < j → j < s.1 → PC σ i j → ∃ p q, HM s.2 p q ∧ CX σ i (sd_ σ i j * nu_ σ i j) (sd_ σ i j * de_ σ i j) p q)) (fun s => (σ kR_segments 0 - s.1).toNat) ⟨by dsimp only; omega, by dsimp only; omega, hτ, hf, ho, fun _ _ h => h, fun j j0 j1 => by dsimp only at j1; omega⟩ ?_
  rintro ⟨j, υ⟩ ⟨j0, j1, hυ, fυ, oυ, mυ, cυ⟩
  dsimp only at j0 j1 hυ fυ oυ mυ cυ ⊢
  have su := SEof fυ
  simp only [su.2.2.2.2]
  rw [w32_of (x := j) (by omega) (by omega), w32_of (x := σ kR_segments 0) (by omega) (by omega)]
  refine wp_if (fun gj => ?_) (fun gj => wp_ir (x_inl ⟨hυ, fυ, oυ, mυ, fun k k0 k1 => cυ k k0 (by omega)⟩))
  have stepj : ∀ ω, II ω → FR HL σ ω → (HO ω ∧ ∀ p q, HM ω p q → nr_ p ∧ nr_ q) → (∀ p q, HM υ p q → HM ω p q) → (PC σ i j → ∃ p q, HM ω p q ∧ CX σ i (sd_ σ i j * nu_ σ i j) (sd_ σ i j * de_ σ i j) p q) → (i < j + 1 ∧ j + 1 ≤ σ kR_segments 0 ∧ II ω ∧ FR HL σ ω ∧ (HO ω ∧ ∀ p q, HM ω p q → nr_ p ∧ nr_ q) ∧ (∀ p q, HM τ p q → HM ω p q) ∧ (∀ k, i < k → k < j + 1 → PC σ i k → ∃ p q, HM ω p q ∧ CX σ i (sd_ σ i k * nu_ σ i k) (sd_ σ i k * de_ σ i k) p q)) := by
    intro ω hω fω oω mono new
    refine ⟨by omega, by omega, hω, fω, oω, fun p q h => mono p q (mυ p q h), fun k k0 k1 pc => ?_⟩
    by_cases e : k = j
    · rw [e] at pc ⊢; exact new pc
    · obtain ⟨p, q, a, b⟩ := cυ k k0 (by omega) pc
      exact ⟨p, q, mono p q a, b⟩
  refine wp_bd (v_isAlike hυ (by omega) (by omega)) ?_
  rintro bl - hbl
  rw [su.1, su.2.1, su.2.2.1, su.2.2.2.1] at hbl
  refine wp_if (fun gb => ?_) (fun gb => ?_)
  · exact wp_il ⟨stepj υ hυ fυ oυ (fun _ _ h => h) (fun pc => absurd (hbl.mp gb) (PC_al pc).2), by dsimp only; omega⟩
  refine wp_bd (wp_and (s_R_meet hυ ⟨by omega, by omega⟩ ⟨by omega, by omega⟩) (v_meetI hυ i0 (by omega) (by omega) (by omega))) ?_
  rintro ⟨x, ω⟩ - ⟨⟨bx, hω, fω⟩, hpc⟩
  dsimp only at bx hω fω hpc ⊢
  have fω' : FR HL σ ω := FR_tr fυ fω (by decide) (by decide)
  have hmω := HM_fr fω (by decide) (by decide) (by decide)
  have oω : HO ω ∧ ∀ p q, HM ω p q → nr_ p ∧ nr_ q := ⟨hmω.2.mpr oυ.1, fun p q h => oυ.2 p q ((hmω.1 p q).mp h)⟩
  have mω : ∀ p q, HM υ p q → HM ω p q := fun p q => (hmω.1 p q).mpr
  rw [SE_PC su] at hpc
  rw [w32_of (x := x) (by omega) (by omega)]
  refine wp_if (fun gx => ?_) (fun gx => ?_)
  · exact wp_il ⟨stepj ω hω fω' oω mω (fun pc => absurd (hpc.mpr pc).1 gx), by dsimp only; omega⟩
  refine wp_if (fun gi => ?_) (fun gi => ?_)
  · have pc := hpc.mp ⟨by omega, gi⟩
    have sω := SEof fω'
    refine wp_bd (v_addCrossing hω (SE_SN sω hn) oω.1 i0 (by rw [sω.2.2.2.2]; omega) (by omega) (by rw [sω.2.2.2.2]; omega) ((SE_PC sω i j).mpr pc)) ?_
    rintro ⟨y, ψ⟩ - ⟨hψ, fψ, oψ, mψ⟩
    dsimp only at hψ fψ oψ mψ ⊢
    have fψ' : FR HL σ ψ := FR_tr fω' fψ (by decide) (by decide)
    refine wp_if (fun gy => ?_) (fun gy => ?_)
    · obtain ⟨m1, m2, p, q, a, b⟩ := mψ gy
      exact wp_il ⟨stepj ψ hψ fψ' ⟨oψ, fun p q h => (m2 p q h).elim (oω.2 p q) id⟩ (fun p q h => m1 p q (mω p q h)) (fun _ => ⟨p, q, a, (SE_cx sω i j p q).mp b⟩), by dsimp only; omega⟩
    · exact wp_ir (x_inr (x_inr (x_inr ⟨hψ, fψ', fun e => by cases e⟩)))
  · exact wp_il ⟨stepj ω hω fω' oω mω (fun pc => absurd (hpc.mpr pc).2 gi), by dsimp only; omega⟩
end SND
