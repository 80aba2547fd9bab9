section GEP
/-- a piece: two hot places' numbers, which a segment meets behind one another -/
def pie_ (H : Rat → Rat → Prop) (s1 s2 e1 e2 A1 A2 B1 B2 : Rat) : Prop := (A1 ≠ B1 ∨ A2 ≠ B2) ∧ H A1 A2 ∧ H B1 B2 ∧ ∃ a1 a2 b1 b2 ta tb : Rat, 0 ≤ ta ∧ ta ≤ 1 ∧ 0 ≤ tb ∧ tb ≤ 1 ∧ a1 = (1 - ta) * s1 + ta * e1 ∧ a2 = (1 - ta) * s2 + ta * e2 ∧ b1 = (1 - tb) * s1 + tb * e1 ∧ b2 = (1 - tb) * s2 + tb * e2 ∧ px_ A1 a1 ∧ px_ A2 a2 ∧ px_ B1 b1 ∧ px_ B2 b2 ∧ ∀ u h1 h2 : Rat, 0 ≤ u → u ≤ 1 → H h1 h2 → px_ h1 ((1 - u) * a1 + u * b1) → px_ h2 ((1 - u) * a2 + u * b2) → h1 = A1 ∧ h2 = A2 ∨ h1 = B1 ∧ h2 = B2
theorem pie_symm {H : Rat → Rat → Prop} {s1 s2 e1 e2 A1 A2 B1 B2 : Rat} (h : pie_ H s1 s2 e1 e2 A1 A2 B1 B2) : pie_ H s1 s2 e1 e2 B1 B2 A1 A2 := by
  obtain ⟨h1, h2, h3, a1, a2, b1, b2, ta, tb, t1, t2, t3, t4, k1, k2, k3, k4, p1, p2, p3, p4, h4⟩ := h
  refine ⟨by grind, h3, h2, b1, b2, a1, a2, tb, ta, t3, t4, t1, t2, k3, k4, k1, k2, p3, p4, p1, p2, ?_⟩
  intro u x y hu0 hu1 hH hx hy
  have := h4 (1 - u) x y (by grind) (by grind) hH (by have e : (1 - (1 - u)) * a1 + (1 - u) * b1 = (1 - u) * b1 + u * a1 := by grind
                                                      rw [e]; exact hx) (by have e : (1 - (1 - u)) * a2 + (1 - u) * b2 = (1 - u) * b2 + u * a2 := by grind
                                                                            rw [e]; exact hy)
  rcases this with h | h
  · exact Or.inr h
  · exact Or.inl h
/-- no hot place inside a piece -/
theorem pie_open {H : Rat → Rat → Prop} {s1 s2 e1 e2 A1 A2 B1 B2 P1 P2 w : Rat} (h : pie_ H s1 s2 e1 e2 A1 A2 B1 B2) (hP : H P1 P2) (h1 : P1 = (1 - w) * A1 + w * B1) (h2 : P2 = (1 - w) * A2 + w * B2) (w0 : 0 < w) (w1 : w < 1) : False := by
  obtain ⟨k1, -, -, a1, a2, b1, b2, ta, tb, -, -, -, -, -, -, -, -, p1, p2, p3, p4, h4⟩ := h
  have m1 := px_mix p1 p3 (Rat.le_of_lt w0) (Rat.le_of_lt w1)
  have m2 := px_mix p2 p4 (Rat.le_of_lt w0) (Rat.le_of_lt w1)
  have q1 := px_same m1 h1
  have q2 := px_same m2 h2
  have n1 : ∀ x : Rat, (1 - w) * x = 0 → x = 0 := by
    intro x hx
    rcases Rat.mul_eq_zero.mp hx with h | h
    · grind
    · exact h
  have n2 : ∀ x : Rat, w * x = 0 → x = 0 := by
    intro x hx
    rcases Rat.mul_eq_zero.mp hx with h | h
    · grind
    · exact h
  rcases h4 w P1 P2 (Rat.le_of_lt w0) (Rat.le_of_lt w1) hP q1 q2 with ⟨r1, r2⟩ | ⟨r1, r2⟩
  · have z1 := n2 (B1 - A1) (by grind)
    have z2 := n2 (B2 - A2) (by grind)
    grind
  · have z1 := n1 (A1 - B1) (by grind)
    have z2 := n1 (A2 - B2) (by grind)
    grind
/-- on one line: two parts that meet have an end of one on the other -/
theorem gm_line {a1 a2 b1 b2 c1 c2 d1 d2 u v : Rat} (hab : a1 ≠ b1 ∨ a2 ≠ b2) (hp : (b1 - a1) * (d2 - c2) = (b2 - a2) * (d1 - c1)) (hu0 : 0 ≤ u) (hu1 : u ≤ 1) (hv0 : 0 ≤ v) (hv1 : v ≤ 1) (h1 : (1 - u) * a1 + u * b1 = (1 - v) * c1 + v * d1) (h2 : (1 - u) * a2 + u * b2 = (1 - v) * c2 + v * d2) :
    (∃ w : Rat, 0 ≤ w ∧ w ≤ 1 ∧ (c1 = (1 - w) * a1 + w * b1 ∧ c2 = (1 - w) * a2 + w * b2 ∨ d1 = (1 - w) * a1 + w * b1 ∧ d2 = (1 - w) * a2 + w * b2)) ∨ ∃ w : Rat, 0 ≤ w ∧ w ≤ 1 ∧ a1 = (1 - w) * c1 + w * d1 ∧ a2 = (1 - w) * c2 + w * d2 := by
  have lam : ∀ x1 x2 : Rat, (b1 - a1) * (x2 - a2) = (b2 - a2) * (x1 - a1) → ∃ l : Rat, x1 = a1 + l * (b1 - a1) ∧ x2 = a2 + l * (b2 - a2) := by
    intro x1 x2 hx
    by_cases h : b1 - a1 = 0
    · have k : b2 - a2 ≠ 0 := by grind
      have e := Rat.inv_mul_cancel _ k
      refine ⟨(b2 - a2)⁻¹ * (x2 - a2), ?_, by grind⟩
      have z : (b2 - a2) * (x1 - a1) = 0 := by rw [← hx, h]; grind
      rcases Rat.mul_eq_zero.mp z with q | q
      · exact absurd q k
      · rw [h]; grind
    · have e := Rat.inv_mul_cancel _ h
      refine ⟨(b1 - a1)⁻¹ * (x1 - a1), by grind, ?_⟩
      have z : (b1 - a1)⁻¹ * ((b1 - a1) * (x2 - a2)) = (b1 - a1)⁻¹ * ((b2 - a2) * (x1 - a1)) := by rw [hx]
      grind
  have hc : (b1 - a1) * (c2 - a2) = (b2 - a2) * (c1 - a1) := by
    have : v * ((b1 - a1) * (d2 - c2)) = v * ((b2 - a2) * (d1 - c1)) := by rw [hp]
    grind
  have hd : (b1 - a1) * (d2 - a2) = (b2 - a2) * (d1 - a1) := by grind
  obtain ⟨l, l1, l2⟩ := lam c1 c2 hc
  obtain ⟨m, m1, m2⟩ := lam d1 d2 hd
  have hu : u = (1 - v) * l + v * m := by
    have z1 : (u - ((1 - v) * l + v * m)) * (b1 - a1) = 0 := by grind
    have z2 : (u - ((1 - v) * l + v * m)) * (b2 - a2) = 0 := by grind
    rcases Rat.mul_eq_zero.mp z1 with q | q
    · grind
    · rcases Rat.mul_eq_zero.mp z2 with r | r
      · grind
      · grind
  by_cases hl : 0 ≤ l ∧ l ≤ 1
  · exact Or.inl ⟨l, hl.1, hl.2, Or.inl ⟨by grind, by grind⟩⟩
  by_cases hm : 0 ≤ m ∧ m ≤ 1
  · exact Or.inl ⟨m, hm.1, hm.2, Or.inr ⟨by grind, by grind⟩⟩
  have s1 := Rat.mul_nonneg hv0 (show 0 ≤ 1 - v by grind)
  right
  have key : l < 0 ∧ 1 < m ∨ m < 0 ∧ 1 < l := by
    rcases gm_tri l 0 with p | p | p
    · left; refine ⟨p, ?_⟩
      rcases gm_tri m 0 with q | q | q
      · exfalso
        have e1 := Rat.mul_nonneg hv0 (show 0 ≤ -m by grind)
        have e2 := Rat.mul_nonneg (show 0 ≤ 1 - v by grind) (show 0 ≤ -l by grind)
        rcases gm_tri v 0 with r | r | r
        · grind
        · subst r; grind
        · have := Rat.mul_pos r (show 0 < -m by grind); grind
      · grind
      · grind
    · grind
    · right
      have l1 : 1 < l := by grind
      refine ⟨?_, l1⟩
      rcases gm_tri m 0 with q | q | q
      · exact q
      · grind
      · exfalso
        have m1 : 1 < m := by grind
        have e1 := Rat.mul_nonneg hv0 (show 0 ≤ m - 1 by grind)
        have e2 := Rat.mul_nonneg (show 0 ≤ 1 - v by grind) (show 0 ≤ l - 1 by grind)
        rcases gm_tri v 0 with r | r | r
        · grind
        · subst r; grind
        · have := Rat.mul_pos r (show 0 < m - 1 by grind); grind
  have hml : m - l ≠ 0 := by grind
  have e := Rat.inv_mul_cancel _ hml
  refine ⟨(-l) * (m - l)⁻¹, ?_, ?_, by grind, by grind⟩
  · rcases key with ⟨k1, k2⟩ | ⟨k1, k2⟩
    · have := Rat.inv_pos.mpr (show 0 < m - l by grind)
      exact Rat.mul_nonneg (by grind) (Rat.le_of_lt this)
    · have i1 := Rat.inv_pos.mpr (show 0 < l - m by grind)
      have i2 : (m - l)⁻¹ = -(l - m)⁻¹ := by
        have f := Rat.inv_mul_cancel _ (show l - m ≠ 0 by grind)
        grind
      have := Rat.mul_nonneg (show 0 ≤ l by grind) (Rat.le_of_lt i1)
      rw [i2]; grind
  · rcases key with ⟨k1, k2⟩ | ⟨k1, k2⟩
    · have i0 := Rat.inv_pos.mpr (show 0 < m - l by grind)
      have := Rat.mul_nonneg (show 0 ≤ m by grind) (Rat.le_of_lt i0)
      grind
    · have i1 := Rat.inv_pos.mpr (show 0 < l - m by grind)
      have f := Rat.inv_mul_cancel _ (show l - m ≠ 0 by grind)
      have i2 : (m - l)⁻¹ = -(l - m)⁻¹ := by grind
      have := Rat.mul_nonneg (show 0 ≤ -m by grind) (Rat.le_of_lt i1)
      rw [i2]; grind
/-- where two segments have a place in common there is a hot pixel, or they have one direction -/
def hotx_ (H : Rat → Rat → Prop) (s1 s2 e1 e2 t1 t2 f1 f2 : Rat) : Prop := ∀ u v : Rat, 0 ≤ u → u ≤ 1 → 0 ≤ v → v ≤ 1 → (1 - u) * s1 + u * e1 = (1 - v) * t1 + v * f1 → (1 - u) * s2 + u * e2 = (1 - v) * t2 + v * f2 → (e1 - s1) * (f2 - t2) = (e2 - s2) * (f1 - t1) ∨ ∃ h1 h2, H h1 h2 ∧ px_ h1 ((1 - u) * s1 + u * e1) ∧ px_ h2 ((1 - u) * s2 + u * e2)
theorem px_one {A B a : Rat} {hA hB : Int} (eA : A = hA) (eB : B = hB) (h1 : px_ A a) (h2 : px_ B a) : A = B := by
  subst eA; subst eB
  obtain ⟨p1, p2⟩ := h1
  obtain ⟨q1, q2⟩ := h2
  have : (hA : Rat) < (hB + 1 : Int) := by rw [Rat.intCast_add]; grind
  have r1 := Rat.intCast_lt_intCast.mp this
  have : (hB : Rat) < (hA + 1 : Int) := by rw [Rat.intCast_add]; grind
  have r2 := Rat.intCast_lt_intCast.mp this
  have : hA = hB := by omega
  rw [this]
/-- two pieces that have a place in common have an end in common -/
theorem pie_meet {H : Rat → Rat → Prop} (hint : ∀ x y, H x y → (∃ k : Int, x = k) ∧ ∃ k : Int, y = k) {s1 s2 e1 e2 A1 A2 B1 B2 t1 t2 f1 f2 C1 C2 D1 D2 u v : Rat} (h : pie_ H s1 s2 e1 e2 A1 A2 B1 B2) (k : pie_ H t1 t2 f1 f2 C1 C2 D1 D2) (hx : hotx_ H s1 s2 e1 e2 t1 t2 f1 f2)
    (hu0 : 0 ≤ u) (hu1 : u ≤ 1) (hv0 : 0 ≤ v) (hv1 : v ≤ 1) (h1 : (1 - u) * A1 + u * B1 = (1 - v) * C1 + v * D1) (h2 : (1 - u) * A2 + u * B2 = (1 - v) * C2 + v * D2) :
    (A1 = C1 ∧ A2 = C2) ∨ (A1 = D1 ∧ A2 = D2) ∨ (B1 = C1 ∧ B2 = C2) ∨ (B1 = D1 ∧ B2 = D2) := by
  obtain ⟨hne, hA, hB, a1, a2, b1, b2, ta, tb, ta0, ta1, tb0, tb1, ea1, ea2, eb1, eb2, pa1, pa2, pb1, pb2, hh⟩ := h
  obtain ⟨kne, kC, kD, c1, c2, d1, d2, tc, td, tc0, tc1, td0, td1, ec1, ec2, ed1, ed2, pc1, pc2, pd1, pd2, kk⟩ := k
  have hab : a1 ≠ b1 ∨ a2 ≠ b2 := by
    by_cases q : a1 = b1 ∧ a2 = b2
    · exfalso
      obtain ⟨⟨i, ei⟩, ⟨j, ej⟩⟩ := hint _ _ hA
      obtain ⟨⟨m, em⟩, ⟨n, en⟩⟩ := hint _ _ hB
      have z1 := px_one ei em pa1 (by rw [q.1]; exact pb1)
      have z2 := px_one ej en pa2 (by rw [q.2]; exact pb2)
      grind
    · grind
  have onc : ∀ w : Rat, 0 ≤ w → w ≤ 1 → px_ A1 ((1 - w) * c1 + w * d1) → px_ A2 ((1 - w) * c2 + w * d2) → (A1 = C1 ∧ A2 = C2) ∨ (A1 = D1 ∧ A2 = D2) := fun w w0 w1 q1 q2 => kk w A1 A2 w0 w1 hA q1 q2
  rcases gm_near pa1 pa2 pb1 pb2 pc1 pc2 pd1 pd2 hu0 hu1 hv0 hv1 h1 h2 with ⟨u, v, g1, g2, g3, g4, g5, g6⟩ | ⟨w, w0, w1, ⟨q1, q2⟩ | ⟨q1, q2⟩⟩ | ⟨w, w0, w1, ⟨q1, q2⟩ | ⟨q1, q2⟩⟩
  · have mix0 : ∀ {p q r : Rat}, 0 ≤ p → p ≤ 1 → 0 ≤ q → q ≤ 1 → 0 ≤ r → r ≤ 1 → 0 ≤ (1 - r) * p + r * q ∧ (1 - r) * p + r * q ≤ 1 := by
      intro p q r x1 x2 x3 x4 x5 x6
      have e1 := Rat.mul_nonneg (show 0 ≤ 1 - r by grind) x1
      have e2 := Rat.mul_nonneg x5 x3
      have e3 := Rat.mul_nonneg (show 0 ≤ 1 - r by grind) (show 0 ≤ 1 - p by grind)
      have e4 := Rat.mul_nonneg x5 (show 0 ≤ 1 - q by grind)
      constructor <;> grind
    obtain ⟨y1, y2⟩ := mix0 ta0 ta1 tb0 tb1 g1 g2
    obtain ⟨y3, y4⟩ := mix0 tc0 tc1 td0 td1 g3 g4
    have pu1 : (1 - ((1 - u) * ta + u * tb)) * s1 + ((1 - u) * ta + u * tb) * e1 = (1 - u) * a1 + u * b1 := by grind
    have pu2 : (1 - ((1 - u) * ta + u * tb)) * s2 + ((1 - u) * ta + u * tb) * e2 = (1 - u) * a2 + u * b2 := by grind
    have pv1 : (1 - ((1 - v) * tc + v * td)) * t1 + ((1 - v) * tc + v * td) * f1 = (1 - v) * c1 + v * d1 := by grind
    have pv2 : (1 - ((1 - v) * tc + v * td)) * t2 + ((1 - v) * tc + v * td) * f2 = (1 - v) * c2 + v * d2 := by grind
    rcases hx _ _ y1 y2 y3 y4 (by rw [pu1, pv1]; exact g5) (by rw [pu2, pv2]; exact g6) with hp | ⟨x1, x2, hH, z1, z2⟩
    · have hp2 : (b1 - a1) * (d2 - c2) = (b2 - a2) * (d1 - c1) := by
        have : (tb - ta) * (td - tc) * ((e1 - s1) * (f2 - t2)) = (tb - ta) * (td - tc) * ((e2 - s2) * (f1 - t1)) := by rw [hp]
        grind
      rcases gm_line hab hp2 g1 g2 g3 g4 g5 g6 with ⟨w, w0, w1, ⟨q1, q2⟩ | ⟨q1, q2⟩⟩ | ⟨w, w0, w1, q1, q2⟩
      · have := hh w C1 C2 w0 w1 kC (by rw [← q1]; exact pc1) (by rw [← q2]; exact pc2)
        grind
      · have := hh w D1 D2 w0 w1 kD (by rw [← q1]; exact pd1) (by rw [← q2]; exact pd2)
        grind
      · have := onc w w0 w1 (by rw [← q1]; exact pa1) (by rw [← q2]; exact pa2)
        grind
    · rw [pu1] at z1
      rw [pu2] at z2
      have r1 := hh u x1 x2 g1 g2 hH z1 z2
      have r2 := kk v x1 x2 g3 g4 hH (by rw [← g5]; exact z1) (by rw [← g6]; exact z2)
      grind
  · have := onc w w0 w1 q1 q2
    grind
  · have := kk w B1 B2 w0 w1 hB q1 q2
    grind
  · have := hh w C1 C2 w0 w1 kC q1 q2
    grind
  · have := hh w D1 D2 w0 w1 kD q1 q2
    grind
/-- two pieces from one place on one ray are one piece -/
theorem pie_ray {H : Rat → Rat → Prop} {s1 s2 e1 e2 A1 A2 B1 B2 t1 t2 f1 f2 D1 D2 u v : Rat} (h : pie_ H s1 s2 e1 e2 A1 A2 B1 B2) (k : pie_ H t1 t2 f1 f2 A1 A2 D1 D2) (u0 : 0 < u) (v0 : 0 < v) (h1 : u * (B1 - A1) = v * (D1 - A1)) (h2 : u * (B2 - A2) = v * (D2 - A2)) : B1 = D1 ∧ B2 = D2 := by
  have hB := h.2.2.1
  have kD := k.2.2.1
  rcases gm_tri u v with q | q | q
  · exfalso
    have e := Rat.inv_mul_cancel v (by grind)
    have e0 := Rat.inv_pos.mpr v0
    refine pie_open h kD (w := u * v⁻¹) ?_ ?_ (Rat.mul_pos u0 e0) ?_
    · have : v⁻¹ * (u * (B1 - A1)) = v⁻¹ * (v * (D1 - A1)) := by rw [h1]
      grind
    · have : v⁻¹ * (u * (B2 - A2)) = v⁻¹ * (v * (D2 - A2)) := by rw [h2]
      grind
    · have := Rat.mul_pos (show 0 < v - u by grind) e0
      grind
  · subst q
    have z1 : u * (B1 - D1) = 0 := by grind
    have z2 : u * (B2 - D2) = 0 := by grind
    rcases Rat.mul_eq_zero.mp z1 with r | r
    · grind
    · rcases Rat.mul_eq_zero.mp z2 with s | s
      · grind
      · grind
  · exfalso
    have e := Rat.inv_mul_cancel u (by grind)
    have e0 := Rat.inv_pos.mpr u0
    refine pie_open k hB (w := v * u⁻¹) ?_ ?_ (Rat.mul_pos v0 e0) ?_
    · have : u⁻¹ * (u * (B1 - A1)) = u⁻¹ * (v * (D1 - A1)) := by rw [h1]
      grind
    · have : u⁻¹ * (u * (B2 - A2)) = u⁻¹ * (v * (D2 - A2)) := by rw [h2]
      grind
    · have := Rat.mul_pos (show 0 < u - v by grind) e0
      grind
end GEP
