section DEM
theorem ci_aff (a1 a2 b1 b2 c1 c2 : Int) : ∃ A B E : Int, ∀ z1 z2 : Int, ci_ a1 a2 b1 b2 c1 c2 z1 z2 = -(oi_ a1 a2 b1 b2 c1 c2 * (z1 * z1 + z2 * z2)) + A * z1 + B * z2 + E := by
  refine ⟨(a1 * a1 + a2 * a2) * (b2 - c2) + (b1 * b1 + b2 * b2) * (c2 - a2) + (c1 * c1 + c2 * c2) * (a2 - b2), (a1 * a1 + a2 * a2) * (c1 - b1) + (b1 * b1 + b2 * b2) * (a1 - c1) + (c1 * c1 + c2 * c2) * (b1 - a1), a1 * (b2 * (c1 * c1 + c2 * c2) - (b1 * b1 + b2 * b2) * c2) + b1 * (c2 * (a1 * a1 + a2 * a2) - (c1 * c1 + c2 * c2) * a2) + c1 * (a2 * (b1 * b1 + b2 * b2) - (a1 * a1 + a2 * a2) * b2), ?_⟩
  intro z1 z2
  unfold ci_ oi_
  grind
theorem ci_base (a1 a2 b1 b2 c1 c2 m1 m2 k1 k2 w1 w2 z1 z2 : Int) : oi_ m1 m2 k1 k2 w1 w2 * ci_ a1 a2 b1 b2 c1 c2 z1 z2 - oi_ a1 a2 b1 b2 c1 c2 * ci_ m1 m2 k1 k2 w1 w2 z1 z2 = ci_ a1 a2 b1 b2 c1 c2 m1 m2 * oi_ z1 z2 k1 k2 w1 w2 + ci_ a1 a2 b1 b2 c1 c2 k1 k2 * oi_ m1 m2 z1 z2 w1 w2 + ci_ a1 a2 b1 b2 c1 c2 w1 w2 * oi_ m1 m2 k1 k2 z1 z2 := by
  obtain ⟨A, B, E, h⟩ := ci_aff a1 a2 b1 b2 c1 c2
  rw [h, h, h, h]
  generalize oi_ a1 a2 b1 b2 c1 c2 = D
  unfold ci_ oi_
  grind
/-- another three places of a circle tell the same one -/
theorem ci_re {a1 a2 b1 b2 c1 c2 m1 m2 k1 k2 w1 w2 : Int} (hm : ci_ a1 a2 b1 b2 c1 c2 m1 m2 = 0) (hk : ci_ a1 a2 b1 b2 c1 c2 k1 k2 = 0) (hw : ci_ a1 a2 b1 b2 c1 c2 w1 w2 = 0) (z1 z2 : Int) : oi_ m1 m2 k1 k2 w1 w2 * ci_ a1 a2 b1 b2 c1 c2 z1 z2 = oi_ a1 a2 b1 b2 c1 c2 * ci_ m1 m2 k1 k2 w1 w2 z1 z2 := by
  have h := ci_base a1 a2 b1 b2 c1 c2 m1 m2 k1 k2 w1 w2 z1 z2
  rw [hm, hk, hw, Int.zero_mul, Int.zero_mul, Int.zero_mul] at h
  omega
theorem sg_of_mul {x y u v : Int} (hx : 0 < x) (hu : 0 < u) (h : x * y = u * v) : (y = 0 ↔ v = 0) ∧ (0 < y ↔ 0 < v) ∧ (y ≤ 0 ↔ v ≤ 0) := by
  rcases Int.lt_trichotomy y 0 with p | p | p <;> rcases Int.lt_trichotomy v 0 with q | q | q
  · omega
  · rw [q, Int.mul_zero] at h; have := Int.mul_neg_of_pos_of_neg hx p; omega
  · have := Int.mul_neg_of_pos_of_neg hx p; have := Int.mul_pos hu q; omega
  · rw [p, Int.mul_zero] at h; have := Int.mul_neg_of_pos_of_neg hu q; omega
  · omega
  · rw [p, Int.mul_zero] at h; have := Int.mul_pos hu q; omega
  · have := Int.mul_pos hx p; have := Int.mul_neg_of_pos_of_neg hu q; omega
  · rw [q, Int.mul_zero] at h; have := Int.mul_pos hx p; omega
  · omega
/-- three places of a circle are not on one line -/
theorem ci_nl {a1 a2 b1 b2 c1 c2 m1 m2 k1 k2 x1 x2 : Int} (hD : 0 < oi_ a1 a2 b1 b2 c1 c2) (hm : ci_ a1 a2 b1 b2 c1 c2 m1 m2 = 0) (hk : ci_ a1 a2 b1 b2 c1 c2 k1 k2 = 0) (hx : ci_ a1 a2 b1 b2 c1 c2 x1 x2 = 0) (h : oi_ m1 m2 k1 k2 x1 x2 = 0) : (m1 = k1 ∧ m2 = k2) ∨ (m1 = x1 ∧ m2 = x2) ∨ (k1 = x1 ∧ k2 = x2) := by
  have z0 : ∀ z1 z2, ci_ m1 m2 k1 k2 x1 x2 z1 z2 = 0 := by
    intro z1 z2
    have := ci_re hm hk hx z1 z2
    rw [h, Int.zero_mul] at this
    exact mul_z this.symm (by omega)
  have z1 : ∀ z1 z2, oi_ m1 m2 k1 k2 z1 z2 * ((x1 - m1) * (x1 - k1) + (x2 - m2) * (x2 - k2)) = 0 := by
    intro z1 z2
    have := z0 z1 z2
    rw [ci_line, h, Int.zero_mul, Int.sub_zero] at this
    exact this
  by_cases hmk : m1 = k1 ∧ m2 = k2
  · exact Or.inl hmk
  · have ex : oi_ m1 m2 k1 k2 a1 a2 ≠ 0 ∨ oi_ m1 m2 k1 k2 b1 b2 ≠ 0 ∨ oi_ m1 m2 k1 k2 c1 c2 ≠ 0 := by
      by_cases q1 : oi_ m1 m2 k1 k2 a1 a2 = 0
      · by_cases q2 : oi_ m1 m2 k1 k2 b1 b2 = 0
        · right; right
          intro q3
          unfold oi_ at q1 q2 q3 hD
          have e1 : (k1 - m1) * ((b1 - a1) * (c2 - a2) - (b2 - a2) * (c1 - a1)) = 0 := by grind
          have e2 : (k2 - m2) * ((b1 - a1) * (c2 - a2) - (b2 - a2) * (c1 - a1)) = 0 := by grind
          rw [Int.mul_comm] at e1 e2
          have f1 := mul_z e1 (by omega)
          have f2 := mul_z e2 (by omega)
          exact hmk ⟨by omega, by omega⟩
        · exact Or.inr (Or.inl q2)
      · exact Or.inl q1
    have d0 : (x1 - m1) * (x1 - k1) + (x2 - m2) * (x2 - k2) = 0 := by
      rcases ex with q | q | q
      · exact mul_z (z1 a1 a2) q
      · exact mul_z (z1 b1 b2) q
      · exact mul_z (z1 c1 c2) q
    have lag : ((x1 - m1) * (x1 - m1) + (x2 - m2) * (x2 - m2)) * ((x1 - k1) * (x1 - k1) + (x2 - k2) * (x2 - k2)) = 0 := by
      have e : ((x1 - m1) * (x1 - m1) + (x2 - m2) * (x2 - m2)) * ((x1 - k1) * (x1 - k1) + (x2 - k2) * (x2 - k2)) = ((x1 - m1) * (x1 - k1) + (x2 - m2) * (x2 - k2)) * ((x1 - m1) * (x1 - k1) + (x2 - m2) * (x2 - k2)) + oi_ m1 m2 k1 k2 x1 x2 * oi_ m1 m2 k1 k2 x1 x2 := by unfold oi_; grind
      rw [e, d0, h]; rfl
    rcases Int.mul_eq_zero.mp lag with q | q
    · right; left
      by_cases r : x1 ≠ m1 ∨ x2 ≠ m2
      · have := dd_pos r; omega
      · omega
    · right; right
      by_cases r : x1 ≠ k1 ∨ x2 ≠ k2
      · have := dd_pos r; omega
      · omega
/-- a half plane's turns -/
theorem oi_half {m p1 p2 a1 a2 b1 b2 c1 c2 : Int} : oi_ p1 p2 a1 a2 c1 c2 * (m * (b1 - p1) + (b2 - p2)) = oi_ p1 p2 a1 a2 b1 b2 * (m * (c1 - p1) + (c2 - p2)) + oi_ p1 p2 b1 b2 c1 c2 * (m * (a1 - p1) + (a2 - p2)) := by unfold oi_; grind
/-- the slope by which places are sorted -/
def fi_ (x y : Int) : Int := 8589934592 * x + y
theorem fi_lt {x1 x2 y1 y2 : Int} (hx : -1000000000 ≤ x2 ∧ x2 ≤ 1000000000) (hy : -1000000000 ≤ y2 ∧ y2 ≤ 1000000000) : (x1 < y1 ∨ (x1 = y1 ∧ x2 < y2)) ↔ fi_ x1 x2 < fi_ y1 y2 := by unfold fi_; omega
theorem fi_d (x1 x2 p1 p2 : Int) : 8589934592 * (x1 - p1) + (x2 - p2) = fi_ x1 x2 - fi_ p1 p2 := by unfold fi_; omega
/-- turns from the least place add up -/
theorem oi_tr3 {p1 p2 a1 a2 b1 b2 c1 c2 : Int} (ha : fi_ p1 p2 < fi_ a1 a2) (hb : fi_ p1 p2 < fi_ b1 b2) (hc : fi_ p1 p2 < fi_ c1 c2) : (0 < oi_ p1 p2 a1 a2 b1 b2 → 0 < oi_ p1 p2 b1 b2 c1 c2 → 0 < oi_ p1 p2 a1 a2 c1 c2) ∧ (0 ≤ oi_ p1 p2 a1 a2 b1 b2 → 0 ≤ oi_ p1 p2 b1 b2 c1 c2 → 0 ≤ oi_ p1 p2 a1 a2 c1 c2 ∧ (oi_ p1 p2 a1 a2 c1 c2 = 0 → oi_ p1 p2 a1 a2 b1 b2 = 0 ∧ oi_ p1 p2 b1 b2 c1 c2 = 0)) := by
  have id := oi_half (m := 8589934592) (p1 := p1) (p2 := p2) (a1 := a1) (a2 := a2) (b1 := b1) (b2 := b2) (c1 := c1) (c2 := c2)
  rw [fi_d, fi_d, fi_d] at id
  generalize oi_ p1 p2 a1 a2 c1 c2 = x at *
  generalize oi_ p1 p2 a1 a2 b1 b2 = y at *
  generalize oi_ p1 p2 b1 b2 c1 c2 = z at *
  have hA : 0 < fi_ a1 a2 - fi_ p1 p2 := by omega
  have hB : 0 < fi_ b1 b2 - fi_ p1 p2 := by omega
  have hC : 0 < fi_ c1 c2 - fi_ p1 p2 := by omega
  generalize fi_ a1 a2 - fi_ p1 p2 = A at *
  generalize fi_ b1 b2 - fi_ p1 p2 = B at *
  generalize fi_ c1 c2 - fi_ p1 p2 = C at *
  constructor
  · intro h1 h2
    have e1 := Int.mul_pos h1 hC
    have e2 := Int.mul_pos h2 hA
    rcases Int.lt_or_le 0 x with q | q
    · exact q
    · have e3 := Int.mul_nonneg (show 0 ≤ -x by omega) (Int.le_of_lt hB)
      rw [Int.neg_mul] at e3
      omega
  · intro h1 h2
    have e1 := Int.mul_nonneg h1 (Int.le_of_lt hC)
    have e2 := Int.mul_nonneg h2 (Int.le_of_lt hA)
    refine ⟨?_, fun h0 => ?_⟩
    · rcases Int.lt_or_le x 0 with q | q
      · have := Int.mul_neg_of_neg_of_pos q hB; omega
      · exact q
    · rw [h0, Int.zero_mul] at id
      have f1 : y * C = 0 := by omega
      have f2 : z * A = 0 := by omega
      exact ⟨(Int.mul_eq_zero.mp f1).resolve_right (by omega), (Int.mul_eq_zero.mp f2).resolve_right (by omega)⟩
/-- of two places on one ray the one whose way is no shorter is not ahead of the other one -/
theorem ray_dot {p1 p2 b1 b2 k1 k2 : Int} (hb : fi_ p1 p2 < fi_ b1 b2) (hk : fi_ p1 p2 < fi_ k1 k2) (h0 : oi_ p1 p2 b1 b2 k1 k2 = 0) (hw : (b1 - p1).natAbs + (b2 - p2).natAbs ≤ (k1 - p1).natAbs + (k2 - p2).natAbs) : 0 ≤ (k1 - p1) * (k1 - b1) + (k2 - p2) * (k2 - b2) := by
  have hB : 0 < fi_ b1 b2 - fi_ p1 p2 := by omega
  have hK : 0 < fi_ k1 k2 - fi_ p1 p2 := by omega
  rw [← fi_d] at hB hK
  unfold oi_ at h0
  generalize hu1 : b1 - p1 = u1 at *
  generalize hu2 : b2 - p2 = u2 at *
  generalize hv1 : k1 - p1 = v1 at *
  generalize hv2 : k2 - p2 = v2 at *
  have w1 : k1 - b1 = v1 - u1 := by omega
  have w2 : k2 - b2 = v2 - u2 := by omega
  rw [w1, w2]
  clear w1 w2 hu1 hu2 hv1 hv2 hb hk
  generalize hP : 8589934592 * u1 + u2 = P at *
  generalize hQ : 8589934592 * v1 + v2 = Q at *
  have l1 : v1 * P = u1 * Q := by rw [← hP, ← hQ]; grind
  have l2 : v2 * P = u2 * Q := by rw [← hP, ← hQ]; grind
  have n1 : v1.natAbs * P.natAbs = u1.natAbs * Q.natAbs := by rw [← Int.natAbs_mul, ← Int.natAbs_mul, l1]
  have n2 : v2.natAbs * P.natAbs = u2.natAbs * Q.natAbs := by rw [← Int.natAbs_mul, ← Int.natAbs_mul, l2]
  have hPQ : P ≤ Q := by
    have hs : 0 < u1.natAbs + u2.natAbs := by omega
    have e : (v1.natAbs + v2.natAbs) * P.natAbs = (u1.natAbs + u2.natAbs) * Q.natAbs := by rw [Nat.add_mul, Nat.add_mul, n1, n2]
    have e2 : (u1.natAbs + u2.natAbs) * P.natAbs ≤ (v1.natAbs + v2.natAbs) * P.natAbs := Nat.mul_le_mul_right _ hw
    rw [e] at e2
    have := Nat.le_of_mul_le_mul_left e2 hs
    omega
  have key : (v1 * (v1 - u1) + v2 * (v2 - u2)) * (P * P) = (u1 * u1 + u2 * u2) * (Q * (Q - P)) := by grind
  have r1 := Int.mul_nonneg (show 0 ≤ u1 * u1 + u2 * u2 by have := sq_nn u1; have := sq_nn u2; omega) (Int.mul_nonneg (Int.le_of_lt hK) (show 0 ≤ Q - P by omega))
  have r2 := Int.mul_pos hB hB
  rcases Int.lt_or_le (v1 * (v1 - u1) + v2 * (v2 - u2)) 0 with q | q
  · have := Int.mul_neg_of_neg_of_pos q r2; omega
  · exact q
/-- circles through two places, on one side -/
theorem ci_side {p1 p2 q1 q2 r1 r2 c1 c2 k1 k2 : Int} (hr : 0 < oi_ p1 p2 q1 q2 r1 r2) (hc : 0 < oi_ p1 p2 q1 q2 c1 c2) (hk : 0 < oi_ p1 p2 q1 q2 k1 k2) (h1 : ci_ p1 p2 q1 q2 r1 r2 k1 k2 ≤ 0) (h2 : 0 < ci_ p1 p2 q1 q2 r1 r2 c1 c2) : ci_ p1 p2 q1 q2 c1 c2 k1 k2 ≤ 0 := by
  have h := ci_pen p1 p2 q1 q2 r1 r2 c1 c2 k1 k2
  have s1 := ci_sw p1 p2 q1 q2 c1 c2 k1 k2
  have s2 := oi_sw p1 p2 q1 q2 c1 c2
  rw [s1, s2] at h
  have a := Int.mul_nonneg (show 0 ≤ -ci_ p1 p2 q1 q2 r1 r2 k1 k2 by omega) (Int.le_of_lt hc)
  have b := Int.mul_pos h2 hk
  rw [Int.neg_mul] at a
  rw [Int.neg_mul, Int.mul_neg] at h
  rcases Int.lt_or_le 0 (ci_ p1 p2 q1 q2 c1 c2 k1 k2) with g | g
  · have := Int.mul_pos g hr; omega
  · exact g
end DEM
