section GEO
theorem gm_tri (a b : Rat) : a < b ∨ a = b ∨ b < a := by grind
theorem gm_ne {a : Rat} (h : a ≠ 0) : a < 0 ∨ 0 < a := by grind
/-- from a place in the square one goes in a direction to its rim -/
theorem gm_rim {u v p q : Rat} (hu0 : 0 ≤ u) (hu1 : u ≤ 1) (hv0 : 0 ≤ v) (hv1 : v ≤ 1) (hpq : p ≠ 0 ∨ q ≠ 0) : ∃ t : Rat, 0 ≤ t ∧ 0 ≤ u + t * p ∧ u + t * p ≤ 1 ∧ 0 ≤ v + t * q ∧ v + t * q ≤ 1 ∧ (u + t * p = 0 ∨ u + t * p = 1 ∨ v + t * q = 0 ∨ v + t * q = 1) := by
  have one : ∀ {u p : Rat}, 0 ≤ u → u ≤ 1 → p ≠ 0 → ∃ t : Rat, 0 ≤ t ∧ (u + t * p = 0 ∨ u + t * p = 1) ∧ ∀ s : Rat, 0 ≤ s → s ≤ t → 0 ≤ u + s * p ∧ u + s * p ≤ 1 := by
    intro u p h0 h1 hp
    rcases gm_ne hp with h | h
    · refine ⟨u * (-p)⁻¹, ?_, Or.inl ?_, ?_⟩
      · have : 0 < (-p)⁻¹ := Rat.inv_pos.mpr (by grind)
        exact Rat.mul_nonneg h0 (Rat.le_of_lt this)
      · have : (-p)⁻¹ * (-p) = 1 := Rat.inv_mul_cancel _ (by grind)
        grind
      · intro s hs hst
        have e1 : (-p)⁻¹ * (-p) = 1 := Rat.inv_mul_cancel _ (by grind)
        have e2 : s * (-p) ≤ u * (-p)⁻¹ * (-p) := Rat.mul_le_mul_of_nonneg_right hst (by grind)
        have e3 : 0 ≤ s * (-p) := Rat.mul_nonneg hs (by grind)
        have e4 : u * (-p)⁻¹ * (-p) = u := by grind
        constructor <;> grind
    · refine ⟨(1 - u) * p⁻¹, ?_, Or.inr ?_, ?_⟩
      · have : 0 < p⁻¹ := Rat.inv_pos.mpr h
        exact Rat.mul_nonneg (by grind) (Rat.le_of_lt this)
      · have : p⁻¹ * p = 1 := Rat.inv_mul_cancel _ (by grind)
        grind
      · intro s hs hst
        have e1 : p⁻¹ * p = 1 := Rat.inv_mul_cancel _ (by grind)
        have e2 : s * p ≤ (1 - u) * p⁻¹ * p := Rat.mul_le_mul_of_nonneg_right hst (by grind)
        have e3 : 0 ≤ s * p := Rat.mul_nonneg hs (by grind)
        have e4 : (1 - u) * p⁻¹ * p = 1 - u := by grind
        constructor <;> grind
  by_cases hp : p = 0
  · have hq : q ≠ 0 := by rcases hpq with h | h; exact absurd hp h; exact h
    obtain ⟨t, ht, h1, h2⟩ := one hv0 hv1 hq
    obtain ⟨h3, h4⟩ := h2 t ht (Rat.le_refl)
    refine ⟨t, ht, ?_, ?_, h3, h4, ?_⟩
    · rw [hp, Rat.mul_zero, Rat.add_zero]; exact hu0
    · rw [hp, Rat.mul_zero, Rat.add_zero]; exact hu1
    · rcases h1 with h | h
      · exact Or.inr (Or.inr (Or.inl h))
      · exact Or.inr (Or.inr (Or.inr h))
  · obtain ⟨t, ht, h1, h2⟩ := one hu0 hu1 hp
    by_cases hq : q = 0
    · obtain ⟨h3, h4⟩ := h2 t ht (Rat.le_refl)
      refine ⟨t, ht, h3, h4, ?_, ?_, ?_⟩
      · rw [hq, Rat.mul_zero, Rat.add_zero]; exact hv0
      · rw [hq, Rat.mul_zero, Rat.add_zero]; exact hv1
      · rcases h1 with h | h
        · exact Or.inl h
        · exact Or.inr (Or.inl h)
    · obtain ⟨r, hr, k1, k2⟩ := one hv0 hv1 hq
      rcases Rat.le_total (a := t) (b := r) with h | h
      · obtain ⟨h3, h4⟩ := h2 t ht (Rat.le_refl)
        obtain ⟨h5, h6⟩ := k2 t ht h
        refine ⟨t, ht, h3, h4, h5, h6, ?_⟩
        rcases h1 with h | h
        · exact Or.inl h
        · exact Or.inr (Or.inl h)
      · obtain ⟨h3, h4⟩ := h2 r hr h
        obtain ⟨h5, h6⟩ := k2 r hr (Rat.le_refl)
        refine ⟨r, hr, h3, h4, h5, h6, ?_⟩
        rcases k1 with h | h
        · exact Or.inr (Or.inr (Or.inl h))
        · exact Or.inr (Or.inr (Or.inr h))
/-- a linear thing that is below 0 first and not so at the end is 0 between -/
theorem gm_ivt {f g t : Rat} (hf : f < 0) (ht : 0 ≤ t) (hg : 0 ≤ f + t * g) : ∃ s : Rat, 0 ≤ s ∧ s ≤ t ∧ f + s * g = 0 := by
  have hg0 : 0 < t * g := by grind
  have hgp : 0 < g := by
    rcases gm_tri g 0 with h | h | h
    · have := Rat.mul_nonneg ht (show 0 ≤ -g by grind); grind
    · rw [h, Rat.mul_zero] at hg0; grind
    · exact h
  have e1 : g⁻¹ * g = 1 := Rat.inv_mul_cancel _ (by grind)
  have e0 : 0 < g⁻¹ := Rat.inv_pos.mpr hgp
  refine ⟨(-f) * g⁻¹, Rat.mul_nonneg (by grind) (Rat.le_of_lt e0), ?_, by grind⟩
  have e2 : 0 ≤ (f + t * g) * g⁻¹ := Rat.mul_nonneg hg (Rat.le_of_lt e0)
  have e3 : (f + t * g) * g⁻¹ = f * g⁻¹ + t * (g⁻¹ * g) := by grind
  rw [e1] at e3
  grind
/-- two segments whose x were moved meet: they met before, or an end passed the other one -/
theorem gm_pull1 {a1 a2 A1 b1 b2 B1 c1 c2 C1 d1 d2 D1 u v : Rat} (hu0 : 0 ≤ u) (hu1 : u ≤ 1) (hv0 : 0 ≤ v) (hv1 : v ≤ 1)
    (hy : (1 - u) * a2 + u * b2 = (1 - v) * c2 + v * d2) (hx : (1 - u) * A1 + u * B1 = (1 - v) * C1 + v * D1) (h0 : (1 - u) * a1 + u * b1 < (1 - v) * c1 + v * d1) :
    ∃ u v : Rat, 0 ≤ u ∧ u ≤ 1 ∧ 0 ≤ v ∧ v ≤ 1 ∧ (1 - u) * a2 + u * b2 = (1 - v) * c2 + v * d2 ∧ ((1 - u) * a1 + u * b1 = (1 - v) * c1 + v * d1 ∨ (u = 0 ∨ u = 1 ∨ v = 0 ∨ v = 1) ∧ (1 - u) * a1 + u * b1 < (1 - v) * c1 + v * d1 ∧ (1 - v) * C1 + v * D1 ≤ (1 - u) * A1 + u * B1) := by
  have hdir : ∃ p q : Rat, (p ≠ 0 ∨ q ≠ 0) ∧ p * (b2 - a2) = q * (d2 - c2) := by
    by_cases h : d2 - c2 = 0
    · by_cases k : b2 - a2 = 0
      · exact ⟨1, 0, Or.inl (by decide), by grind⟩
      · exact ⟨d2 - c2, b2 - a2, Or.inr k, by grind⟩
    · exact ⟨d2 - c2, b2 - a2, Or.inl h, by grind⟩
  have hdir2 : ∃ p q : Rat, (p ≠ 0 ∨ q ≠ 0) ∧ p * (b2 - a2) = q * (d2 - c2) ∧ 0 ≤ p * (B1 - A1) - q * (D1 - C1) := by
    obtain ⟨p, q, h1, h2⟩ := hdir
    rcases Rat.le_total (a := 0) (b := p * (B1 - A1) - q * (D1 - C1)) with h | h
    · exact ⟨p, q, h1, h2, h⟩
    · exact ⟨-p, -q, by grind, by grind, by grind⟩
  obtain ⟨p, q, h1, h2, h3⟩ := hdir2
  obtain ⟨t, ht, k1, k2, k3, k4, k5⟩ := gm_rim hu0 hu1 hv0 hv1 h1
  have hyt : ∀ s : Rat, (1 - (u + s * p)) * a2 + (u + s * p) * b2 = (1 - (v + s * q)) * c2 + (v + s * q) * d2 := by
    intro s
    have : s * (p * (b2 - a2)) = s * (q * (d2 - c2)) := by rw [h2]
    grind
  by_cases hd : (1 - (u + t * p)) * a1 + (u + t * p) * b1 < (1 - (v + t * q)) * c1 + (v + t * q) * d1
  · refine ⟨u + t * p, v + t * q, k1, k2, k3, k4, hyt t, Or.inr ⟨k5, hd, ?_⟩⟩
    have := Rat.mul_nonneg ht h3
    grind
  · have hf : ((1 - u) * a1 + u * b1) - ((1 - v) * c1 + v * d1) < 0 := by grind
    obtain ⟨s, hs0, hs1, hs⟩ := gm_ivt (f := ((1 - u) * a1 + u * b1) - ((1 - v) * c1 + v * d1)) (g := p * (b1 - a1) - q * (d1 - c1)) (t := t) hf ht (by grind)
    have con : ∀ {w r : Rat}, 0 ≤ w → w ≤ 1 → 0 ≤ w + t * r → w + t * r ≤ 1 → 0 ≤ w + s * r ∧ w + s * r ≤ 1 := by
      intro w r g1 g2 g3 g4
      rcases Rat.le_total (a := 0) (b := r) with h | h
      · have e1 : s * r ≤ t * r := Rat.mul_le_mul_of_nonneg_right hs1 h
        have e2 : 0 ≤ s * r := Rat.mul_nonneg hs0 h
        constructor <;> grind
      · have e1 : s * (-r) ≤ t * (-r) := Rat.mul_le_mul_of_nonneg_right hs1 (by grind)
        have e2 : 0 ≤ s * (-r) := Rat.mul_nonneg hs0 (by grind)
        constructor <;> grind
    obtain ⟨m1, m2⟩ := con hu0 hu1 k1 k2
    obtain ⟨m3, m4⟩ := con hv0 hv1 k3 k4
    exact ⟨u + s * p, v + s * q, m1, m2, m3, m4, hyt s, Or.inl (by grind)⟩
theorem gm_pull {a1 a2 A1 b1 b2 B1 c1 c2 C1 d1 d2 D1 u v : Rat} (hu0 : 0 ≤ u) (hu1 : u ≤ 1) (hv0 : 0 ≤ v) (hv1 : v ≤ 1)
    (hy : (1 - u) * a2 + u * b2 = (1 - v) * c2 + v * d2) (hx : (1 - u) * A1 + u * B1 = (1 - v) * C1 + v * D1) :
    ∃ u v : Rat, 0 ≤ u ∧ u ≤ 1 ∧ 0 ≤ v ∧ v ≤ 1 ∧ (1 - u) * a2 + u * b2 = (1 - v) * c2 + v * d2 ∧ ((1 - u) * a1 + u * b1 = (1 - v) * c1 + v * d1 ∨ (u = 0 ∨ u = 1 ∨ v = 0 ∨ v = 1) ∧ ((1 - u) * a1 + u * b1 < (1 - v) * c1 + v * d1 ∧ (1 - v) * C1 + v * D1 ≤ (1 - u) * A1 + u * B1 ∨ (1 - v) * c1 + v * d1 < (1 - u) * a1 + u * b1 ∧ (1 - u) * A1 + u * B1 ≤ (1 - v) * C1 + v * D1)) := by
  rcases gm_tri ((1 - u) * a1 + u * b1) ((1 - v) * c1 + v * d1) with h | h | h
  · obtain ⟨u, v, g1, g2, g3, g4, g5, g6⟩ := gm_pull1 hu0 hu1 hv0 hv1 hy hx h
    refine ⟨u, v, g1, g2, g3, g4, g5, ?_⟩
    rcases g6 with g | ⟨g, k⟩
    · exact Or.inl g
    · exact Or.inr ⟨g, Or.inl k⟩
  · exact ⟨u, v, hu0, hu1, hv0, hv1, hy, Or.inl h⟩
  · obtain ⟨u, v, g1, g2, g3, g4, g5, g6⟩ := gm_pull1 (a1 := -a1) (A1 := -A1) (b1 := -b1) (B1 := -B1) (c1 := -c1) (C1 := -C1) (d1 := -d1) (D1 := -D1) hu0 hu1 hv0 hv1 hy (by grind) (by grind)
    refine ⟨u, v, g1, g2, g3, g4, g5, ?_⟩
    rcases g6 with g | ⟨g, k1, k2⟩
    · exact Or.inl (by grind)
    · exact Or.inr ⟨g, Or.inr ⟨by grind, by grind⟩⟩
/-- a is in the pixel's side of A -/
def px_ (A a : Rat) : Prop := 2 * A - 1 ≤ 2 * a ∧ 2 * a < 2 * A + 1
/-- a convex sum of what lies in pixels moves by no more than a half -/
theorem px_mix {C D c d v : Rat} (hc : px_ C c) (hd : px_ D d) (h0 : 0 ≤ v) (h1 : v ≤ 1) : -1 < 2 * ((1 - v) * C + v * D) - 2 * ((1 - v) * c + v * d) ∧ 2 * ((1 - v) * C + v * D) - 2 * ((1 - v) * c + v * d) ≤ 1 := by
  obtain ⟨c1, c2⟩ := hc
  obtain ⟨d1, d2⟩ := hd
  have e1 := Rat.mul_nonneg (show 0 ≤ 1 - v by grind) (show 0 ≤ 2 * c - (2 * C - 1) by grind)
  have e2 := Rat.mul_nonneg h0 (show 0 ≤ 2 * d - (2 * D - 1) by grind)
  refine ⟨?_, by grind⟩
  rcases gm_tri v 0 with h | h | h
  · grind
  · subst h; grind
  · have e3 := Rat.mul_pos h (show 0 < 2 * D + 1 - 2 * d by grind)
    have e4 := Rat.mul_nonneg (show 0 ≤ 1 - v by grind) (show 0 ≤ 2 * C + 1 - 2 * c by grind)
    grind
/-- an end that passed the other segment, or came to it: that segment has a place in the end's pixel -/
theorem px_pass {A a Q q : Rat} (ha : px_ A a) (hm : -1 < 2 * Q - 2 * q ∧ 2 * Q - 2 * q ≤ 1) (h : a < q ∧ Q ≤ A ∨ q < a ∧ A ≤ Q) : px_ A q := by
  obtain ⟨a1, a2⟩ := ha
  unfold px_
  rcases h with ⟨h1, h2⟩ | ⟨h1, h2⟩ <;> constructor <;> grind
theorem px_same {A Q q : Rat} (hm : -1 < 2 * Q - 2 * q ∧ 2 * Q - 2 * q ≤ 1) (h : A = Q) : px_ A q := by
  unfold px_; subst h; constructor <;> grind
/-- two pieces have a place in common: so have the segments' parts, or one of these has a place in the pixel of an end of the other one -/
theorem gm_near {a1 a2 A1 A2 b1 b2 B1 B2 c1 c2 C1 C2 d1 d2 D1 D2 u v : Rat} (ha1 : px_ A1 a1) (ha2 : px_ A2 a2) (hb1 : px_ B1 b1) (hb2 : px_ B2 b2) (hc1 : px_ C1 c1) (hc2 : px_ C2 c2) (hd1 : px_ D1 d1) (hd2 : px_ D2 d2)
    (hu0 : 0 ≤ u) (hu1 : u ≤ 1) (hv0 : 0 ≤ v) (hv1 : v ≤ 1) (h1 : (1 - u) * A1 + u * B1 = (1 - v) * C1 + v * D1) (h2 : (1 - u) * A2 + u * B2 = (1 - v) * C2 + v * D2) :
    (∃ u v : Rat, 0 ≤ u ∧ u ≤ 1 ∧ 0 ≤ v ∧ v ≤ 1 ∧ (1 - u) * a1 + u * b1 = (1 - v) * c1 + v * d1 ∧ (1 - u) * a2 + u * b2 = (1 - v) * c2 + v * d2) ∨
    (∃ v : Rat, 0 ≤ v ∧ v ≤ 1 ∧ (px_ A1 ((1 - v) * c1 + v * d1) ∧ px_ A2 ((1 - v) * c2 + v * d2) ∨ px_ B1 ((1 - v) * c1 + v * d1) ∧ px_ B2 ((1 - v) * c2 + v * d2))) ∨
    (∃ u : Rat, 0 ≤ u ∧ u ≤ 1 ∧ (px_ C1 ((1 - u) * a1 + u * b1) ∧ px_ C2 ((1 - u) * a2 + u * b2) ∨ px_ D1 ((1 - u) * a1 + u * b1) ∧ px_ D2 ((1 - u) * a2 + u * b2))) := by
  obtain ⟨u, v, g1, g2, g3, g4, g5, g6⟩ := gm_pull (a1 := a2) (a2 := A1) (A1 := A2) (b1 := b2) (b2 := B1) (B1 := B2) (c1 := c2) (c2 := C1) (C1 := C2) (d1 := d2) (d2 := D1) (D1 := D2) hu0 hu1 hv0 hv1 h1 h2
  have mu1 := px_mix ha1 hb1 g1 g2
  have mu2 := px_mix ha2 hb2 g1 g2
  have mv1 := px_mix hc1 hd1 g3 g4
  have mv2 := px_mix hc2 hd2 g3 g4
  rcases g6 with g | ⟨g, k⟩
  · obtain ⟨u, v, r1, r2, r3, r4, r5, r6⟩ := gm_pull (a1 := a1) (a2 := a2) (A1 := A1) (b1 := b1) (b2 := b2) (B1 := B1) (c1 := c1) (c2 := c2) (C1 := C1) (d1 := d1) (d2 := d2) (D1 := D1) g1 g2 g3 g4 g g5
    have nu1 := px_mix ha1 hb1 r1 r2
    have nv1 := px_mix hc1 hd1 r3 r4
    rcases r6 with r | ⟨r, k⟩
    · exact Or.inl ⟨u, v, r1, r2, r3, r4, r, r5⟩
    · rcases r with r | r | r | r
      · subst r
        refine Or.inr (Or.inl ⟨v, r3, r4, Or.inl ⟨px_pass ha1 nv1 (by grind), ?_⟩⟩)
        rw [← r5]; have : (1 - 0) * a2 + 0 * b2 = a2 := by grind
        rw [this]; exact ha2
      · subst r
        refine Or.inr (Or.inl ⟨v, r3, r4, Or.inr ⟨px_pass hb1 nv1 (by grind), ?_⟩⟩)
        rw [← r5]; have : (1 - 1) * a2 + 1 * b2 = b2 := by grind
        rw [this]; exact hb2
      · subst r
        refine Or.inr (Or.inr ⟨u, r1, r2, Or.inl ⟨px_pass hc1 nu1 (by grind), ?_⟩⟩)
        rw [r5]; have : (1 - 0) * c2 + 0 * d2 = c2 := by grind
        rw [this]; exact hc2
      · subst r
        refine Or.inr (Or.inr ⟨u, r1, r2, Or.inr ⟨px_pass hd1 nu1 (by grind), ?_⟩⟩)
        rw [r5]; have : (1 - 1) * c2 + 1 * d2 = d2 := by grind
        rw [this]; exact hd2
  · rcases g with r | r | r | r
    · subst r
      exact Or.inr (Or.inl ⟨v, g3, g4, Or.inl ⟨px_same mv1 (by grind), px_pass ha2 mv2 (by grind)⟩⟩)
    · subst r
      exact Or.inr (Or.inl ⟨v, g3, g4, Or.inr ⟨px_same mv1 (by grind), px_pass hb2 mv2 (by grind)⟩⟩)
    · subst r
      exact Or.inr (Or.inr ⟨u, g1, g2, Or.inl ⟨px_same mu1 (by grind), px_pass hc2 mu2 (by grind)⟩⟩)
    · subst r
      exact Or.inr (Or.inr ⟨u, g1, g2, Or.inr ⟨px_same mu1 (by grind), px_pass hd2 mu2 (by grind)⟩⟩)
end GEO
