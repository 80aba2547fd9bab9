section SNI
/-- the hot places, as places -/
def HTs (σ : SG) (x y : Rat) : Prop := ∃ g, 0 ≤ g ∧ g < σ kR_hots 0 ∧ x = (σ kR_hotX g : Int) ∧ y = (σ kR_hotY g : Int)
/-- a piece of one of the first m segments -/
def WT (σ : SG) (m p q : Int) : Prop := ∃ i, 0 ≤ i ∧ i < m ∧ pie_ (HTs σ) (σ kR_sx i : Int) (σ kR_sy i : Int) (σ kR_ex i : Int) (σ kR_ey i : Int) (σ kR_hotX p : Int) (σ kR_hotY p : Int) (σ kR_hotX q : Int) (σ kR_hotY q : Int)
def dg_ (g p q : Int) : Bool := Bool.xor (decide (p = g)) (decide (q = g))
def st_ (σ : SG) (g i : Int) : Bool := decide (σ kR_hotX g = σ kR_sx i ∧ σ kR_hotY g = σ kR_sy i)
def sn_ (σ : SG) (g i : Int) : Bool := decide (σ kR_hotX g = σ kR_ex i ∧ σ kR_hotY g = σ kR_ey i)
/-- the chain of segment i, whole -/
def CC (σ τ : SG) (i : Int) : Prop := (0 ≤ τ kR_chainMany 0 ∧ τ kR_chainMany 0 ≤ 8192) ∧ (∀ k, 0 ≤ k → k < τ kR_chainMany 0 → (0 ≤ τ kR_chain k ∧ τ kR_chain k < σ kR_hots 0) ∧ ∃ t, PI σ i (τ kR_chain k) t) ∧ (∀ j k, 0 ≤ j → j < k → k < τ kR_chainMany 0 → ∀ t u, PI σ i (τ kR_chain j) t → PI σ i (τ kR_chain k) u → t < u) ∧ (∀ q, 0 ≤ q → q < σ kR_hots 0 → (∃ t, PI σ i q t) → ∃ k, 0 ≤ k ∧ k < τ kR_chainMany 0 ∧ τ kR_chain k = q)
theorem PI_fr {ms : List Nat} {σ τ : SG} (h : FR ms σ τ) (h1 : ms.contains kR_hotX = false) (h2 : ms.contains kR_hotY = false) (h3 : ms.contains kR_sx = false) (h4 : ms.contains kR_sy = false) (h5 : ms.contains kR_ex = false) (h6 : ms.contains kR_ey = false) (i q : Int) (t : Rat) : PI τ i q t ↔ PI σ i q t := by
  unfold PI PX
  rw [FR_at h h1, FR_at h h2, FR_at h h3, FR_at h h4, FR_at h h5, FR_at h h6]
theorem px_self (x : Rat) : px_ x x := by unfold px_; constructor <;> grind
theorem PI_0 {σ : SG} {i g : Int} (h1 : σ kR_hotX g = σ kR_sx i) (h2 : σ kR_hotY g = σ kR_sy i) : PI σ i g 0 := by
  refine ⟨by decide, by decide, ?_, ?_⟩
  · rw [h1, show ((1 : Rat) - 0) * ((σ kR_sx i : Int) : Rat) + 0 * ((σ kR_ex i : Int) : Rat) = ((σ kR_sx i : Int) : Rat) by grind]; exact px_self _
  · rw [h2, show ((1 : Rat) - 0) * ((σ kR_sy i : Int) : Rat) + 0 * ((σ kR_ey i : Int) : Rat) = ((σ kR_sy i : Int) : Rat) by grind]; exact px_self _
theorem PI_1 {σ : SG} {i g : Int} (h1 : σ kR_hotX g = σ kR_ex i) (h2 : σ kR_hotY g = σ kR_ey i) : PI σ i g 1 := by
  refine ⟨by decide, by decide, ?_, ?_⟩
  · rw [h1, show ((1 : Rat) - 1) * ((σ kR_sx i : Int) : Rat) + 1 * ((σ kR_ex i : Int) : Rat) = ((σ kR_ex i : Int) : Rat) by grind]; exact px_self _
  · rw [h2, show ((1 : Rat) - 1) * ((σ kR_sy i : Int) : Rat) + 1 * ((σ kR_ey i : Int) : Rat) = ((σ kR_ey i : Int) : Rat) by grind]; exact px_self _
/-- the chain begins where the segment begins -/
theorem CC_first {σ τ : SG} {i : Int} (ho : HO σ) (hc : CC σ τ i) (hs : HM σ (σ kR_sx i) (σ kR_sy i)) : 1 ≤ τ kR_chainMany 0 ∧ ∀ g, 0 ≤ g → g < σ kR_hots 0 → st_ σ g i = decide (τ kR_chain 0 = g) := by
  obtain ⟨⟨c0, c1⟩, cE, cO, cM⟩ := hc
  obtain ⟨s, s0, s1, s2, s3⟩ := hs
  have ps := PI_0 s2 s3
  obtain ⟨k, k0, k1, k2⟩ := cM s s0 s1 ⟨0, ps⟩
  have z : τ kR_chain 0 = s := by
    by_cases e : k = 0
    · rw [e] at k2; exact k2
    · obtain ⟨-, t, ht⟩ := cE 0 (Int.le_refl _) (by omega)
      have := cO 0 k (Int.le_refl _) (by omega) k1 t 0 ht (by rw [k2]; exact ps)
      have t0 := ht.1
      grind
  refine ⟨by omega, fun g g0 g1 => ?_⟩
  unfold st_
  rw [z]
  by_cases e : s = g
  · rw [← e]; simp [s2, s3]
  · rw [decide_eq_false e]
    refine decide_eq_false (fun q => e ?_)
    exact PI_one ho ps (PI_0 q.1 q.2) s0 s1 g0 g1
theorem CC_last {σ τ : SG} {i : Int} (ho : HO σ) (hc : CC σ τ i) (hs : HM σ (σ kR_ex i) (σ kR_ey i)) : ∀ g, 0 ≤ g → g < σ kR_hots 0 → sn_ σ g i = decide (τ kR_chain (τ kR_chainMany 0 - 1) = g) := by
  obtain ⟨⟨c0, c1⟩, cE, cO, cM⟩ := hc
  obtain ⟨s, s0, s1, s2, s3⟩ := hs
  have ps := PI_1 s2 s3
  obtain ⟨k, k0, k1, k2⟩ := cM s s0 s1 ⟨1, ps⟩
  have z : τ kR_chain (τ kR_chainMany 0 - 1) = s := by
    by_cases e : k = τ kR_chainMany 0 - 1
    · rw [e] at k2; exact k2
    · obtain ⟨-, t, ht⟩ := cE (τ kR_chainMany 0 - 1) (by omega) (by omega)
      have := cO k (τ kR_chainMany 0 - 1) k0 (by omega) (by omega) 1 t (by rw [k2]; exact ps) ht
      have t0 := ht.2.1
      grind
  intro g g0 g1
  unfold sn_
  rw [z]
  by_cases e : s = g
  · rw [← e]; simp [s2, s3]
  · rw [decide_eq_false e]
    refine decide_eq_false (fun q => e ?_)
    exact PI_one ho ps (PI_1 q.1 q.2) s0 s1 g0 g1
theorem CC_ne {σ τ : SG} {i k : Int} (hc : CC σ τ i) (k0 : 0 ≤ k) (k1 : k + 1 < τ kR_chainMany 0) : τ kR_chain k ≠ τ kR_chain (k + 1) := by
  obtain ⟨⟨c0, c1⟩, cE, cO, cM⟩ := hc
  intro e
  obtain ⟨-, t, ht⟩ := cE k k0 (by omega)
  have := cO k (k + 1) k0 (by omega) k1 t t ht (by rw [← e]; exact ht)
  grind
theorem HO_ne {σ : SG} (ho : HO σ) {g h : Int} (g0 : 0 ≤ g) (g1 : g < σ kR_hots 0) (h0 : 0 ≤ h) (h1 : h < σ kR_hots 0) (e : g ≠ h) : σ kR_hotX g ≠ σ kR_hotX h ∨ σ kR_hotY g ≠ σ kR_hotY h := by
  rcases Int.lt_trichotomy g h with q | q | q
  · have := ho g h g0 q h1; unfold lx_ at this; omega
  · exact absurd q e
  · have := ho h g h0 q g1; unfold lx_ at this; omega
/-- neighbours in a chain are a piece -/
theorem CC_pie {σ τ : SG} {i k : Int} (ho : HO σ) (hc : CC σ τ i) (k0 : 0 ≤ k) (k1 : k + 1 < τ kR_chainMany 0) : pie_ (HTs σ) (σ kR_sx i : Int) (σ kR_sy i : Int) (σ kR_ex i : Int) (σ kR_ey i : Int) (σ kR_hotX (τ kR_chain k) : Int) (σ kR_hotY (τ kR_chain k) : Int) (σ kR_hotX (τ kR_chain (k + 1)) : Int) (σ kR_hotY (τ kR_chain (k + 1)) : Int) := by
  have ne := CC_ne hc k0 k1
  obtain ⟨⟨c0, c1⟩, cE, cO, cM⟩ := hc
  obtain ⟨⟨a0, a1⟩, t, ht⟩ := cE k k0 (by omega)
  obtain ⟨⟨b0, b1⟩, u, hu⟩ := cE (k + 1) (by omega) k1
  have tu := cO k (k + 1) k0 (by omega) k1 t u ht hu
  obtain ⟨t0, t1, tx, ty⟩ := ht
  obtain ⟨u0, u1, ux, uy⟩ := hu
  refine ⟨?_, ⟨_, a0, a1, rfl, rfl⟩, ⟨_, b0, b1, rfl, rfl⟩, (1 - t) * (σ kR_sx i : Int) + t * (σ kR_ex i : Int), (1 - t) * (σ kR_sy i : Int) + t * (σ kR_ey i : Int), (1 - u) * (σ kR_sx i : Int) + u * (σ kR_ex i : Int), (1 - u) * (σ kR_sy i : Int) + u * (σ kR_ey i : Int), t, u, t0, t1, u0, u1, rfl, rfl, rfl, rfl, tx, ty, ux, uy, ?_⟩
  · rcases HO_ne ho a0 a1 b0 b1 ne with q | q
    · exact Or.inl (fun z => q (Rat.intCast_inj.mp z))
    · exact Or.inr (fun z => q (Rat.intCast_inj.mp z))
  · rintro w h1 h2 w0 w1 ⟨g, g0, g1, e1, e2⟩ p1 p2
    have q0 := Rat.mul_nonneg w0 (show 0 ≤ u - t by grind)
    have q1 := Rat.mul_nonneg (show 0 ≤ 1 - w by grind) (show 0 ≤ u - t by grind)
    have pv : PI σ i g ((1 - w) * t + w * u) := by
      refine ⟨by grind, by grind, ?_, ?_⟩
      · rw [e1] at p1
        rw [show (1 - ((1 - w) * t + w * u)) * ((σ kR_sx i : Int) : Rat) + ((1 - w) * t + w * u) * ((σ kR_ex i : Int) : Rat) = (1 - w) * ((1 - t) * (σ kR_sx i : Int) + t * (σ kR_ex i : Int)) + w * ((1 - u) * (σ kR_sx i : Int) + u * (σ kR_ex i : Int)) by grind]
        exact p1
      · rw [e2] at p2
        rw [show (1 - ((1 - w) * t + w * u)) * ((σ kR_sy i : Int) : Rat) + ((1 - w) * t + w * u) * ((σ kR_ey i : Int) : Rat) = (1 - w) * ((1 - t) * (σ kR_sy i : Int) + t * (σ kR_ey i : Int)) + w * ((1 - u) * (σ kR_sy i : Int) + u * (σ kR_ey i : Int)) by grind]
        exact p2
    obtain ⟨j, j0, j1, j2⟩ := cM g g0 g1 ⟨_, pv⟩
    by_cases x1 : j = k
    · left; rw [e1, e2, ← j2, x1]; exact ⟨rfl, rfl⟩
    by_cases x2 : j = k + 1
    · right; rw [e1, e2, ← j2, x2]; exact ⟨rfl, rfl⟩
    exfalso
    by_cases x3 : j < k
    · have := cO j k j0 x3 (by omega) _ t (by rw [j2]; exact pv) ⟨t0, t1, tx, ty⟩
      grind
    · have := cO (k + 1) j (by omega) (by omega) j1 u _ ⟨u0, u1, ux, uy⟩ (by rw [j2]; exact pv)
      grind
theorem CC_of {σ τ : SG} {i L T : Int} (hc : CH σ τ i L T) (hL : 0 ≤ L) (hT : T - L ≤ 8192) (hall : ∀ q, 0 ≤ q → q < σ kR_hots 0 → (∃ t, PI σ i q t) → L ≤ q ∧ q < T) : CC σ τ i := by
  obtain ⟨⟨c0, c1⟩, cE, cO, cM⟩ := hc
  refine ⟨⟨c0, by omega⟩, fun k k0 k1 => ?_, cO, fun q q0 q1 hq => ?_⟩
  · obtain ⟨⟨e1, e2, e3, e4, e5⟩, -, -⟩ := cE k k0 k1
    exact ⟨e1, e5⟩
  · obtain ⟨a, b⟩ := hall q q0 q1 hq
    exact cM q a b hq
/-- what a segment meets is not far aside -/
theorem PI_box {σ : SG} {i q : Int} {t : Rat} (h : PI σ i q t) : (if σ kR_sx i < σ kR_ex i then σ kR_sx i else σ kR_ex i) ≤ σ kR_hotX q ∧ σ kR_hotX q ≤ (if σ kR_sx i < σ kR_ex i then σ kR_ex i else σ kR_sx i) := by
  obtain ⟨t0, t1, ⟨h1, h2⟩, -⟩ := h
  generalize σ kR_hotX q = X at *
  generalize σ kR_sx i = s at *
  generalize σ kR_ex i = e at *
  have half : ∀ {a b : Int}, (2 * ((a : Int) : Rat) - 1 ≤ 2 * ((b : Int) : Rat)) → a ≤ b := by
    intro a b hab
    have : ((2 * a - 1 : Int) : Rat) ≤ ((2 * b : Int) : Rat) := by
      rw [c_sub, Rat.intCast_mul, Rat.intCast_mul]; exact hab
    have := Rat.intCast_le_intCast.mp this
    omega
  by_cases c : s < e
  · rw [if_pos c, if_pos c]
    have cc : ((s : Int) : Rat) < ((e : Int) : Rat) := Rat.intCast_lt_intCast.mpr c
    have q0 := Rat.mul_nonneg t0 (show 0 ≤ ((e : Int) : Rat) - ((s : Int) : Rat) by grind)
    have q1 := Rat.mul_nonneg (show 0 ≤ 1 - t by grind) (show 0 ≤ ((e : Int) : Rat) - ((s : Int) : Rat) by grind)
    exact ⟨half (by grind), half (by grind)⟩
  · rw [if_neg c, if_neg c]
    have cc : ((e : Int) : Rat) ≤ ((s : Int) : Rat) := Rat.intCast_le_intCast.mpr (by omega)
    have q0 := Rat.mul_nonneg t0 (show 0 ≤ ((s : Int) : Rat) - ((e : Int) : Rat) by grind)
    have q1 := Rat.mul_nonneg (show 0 ≤ 1 - t by grind) (show 0 ≤ ((s : Int) : Rat) - ((e : Int) : Rat) by grind)
    exact ⟨half (by grind), half (by grind)⟩
end SNI
