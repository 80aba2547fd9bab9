section DEL
def oi_ (a1 a2 b1 b2 c1 c2 : Int) : Int := (b1 - a1) * (c2 - a2) - (b2 - a2) * (c1 - a1)
def ci_ (a1 a2 b1 b2 c1 c2 p1 p2 : Int) : Int :=
  (a1 - p1) * ((b2 - p2) * ((c1 - p1) * (c1 - p1) + (c2 - p2) * (c2 - p2)) - ((b1 - p1) * (b1 - p1) + (b2 - p2) * (b2 - p2)) * (c2 - p2)) +
  (b1 - p1) * ((c2 - p2) * ((a1 - p1) * (a1 - p1) + (a2 - p2) * (a2 - p2)) - ((c1 - p1) * (c1 - p1) + (c2 - p2) * (c2 - p2)) * (a2 - p2)) +
  (c1 - p1) * ((a2 - p2) * ((b1 - p1) * (b1 - p1) + (b2 - p2) * (b2 - p2)) - ((a1 - p1) * (a1 - p1) + (a2 - p2) * (a2 - p2)) * (b2 - p2))
theorem oi_rot (a1 a2 b1 b2 c1 c2 : Int) : oi_ a1 a2 b1 b2 c1 c2 = oi_ b1 b2 c1 c2 a1 a2 := by unfold oi_; grind
theorem oi_sw (a1 a2 b1 b2 c1 c2 : Int) : oi_ b1 b2 a1 a2 c1 c2 = -oi_ a1 a2 b1 b2 c1 c2 := by unfold oi_; grind
theorem ci_rot (a1 a2 b1 b2 c1 c2 p1 p2 : Int) : ci_ a1 a2 b1 b2 c1 c2 p1 p2 = ci_ b1 b2 c1 c2 a1 a2 p1 p2 := by unfold ci_; grind
theorem ci_sw (a1 a2 b1 b2 c1 c2 p1 p2 : Int) : ci_ b1 b2 a1 a2 c1 c2 p1 p2 = -ci_ a1 a2 b1 b2 c1 c2 p1 p2 := by unfold ci_; grind
theorem ci_self (a1 a2 b1 b2 c1 c2 : Int) : ci_ a1 a2 b1 b2 c1 c2 a1 a2 = 0 := by unfold ci_; grind
theorem ci_tr (a1 a2 b1 b2 c1 c2 p1 p2 t1 t2 : Int) : ci_ (a1 - t1) (a2 - t2) (b1 - t1) (b2 - t2) (c1 - t1) (c2 - t2) (p1 - t1) (p2 - t2) = ci_ a1 a2 b1 b2 c1 c2 p1 p2 := by unfold ci_; grind
theorem oi_tr (a1 a2 b1 b2 c1 c2 t1 t2 : Int) : oi_ (a1 - t1) (a2 - t2) (b1 - t1) (b2 - t2) (c1 - t1) (c2 - t2) = oi_ a1 a2 b1 b2 c1 c2 := by unfold oi_; grind
theorem ci_neg (a1 a2 b1 b2 c1 c2 p1 p2 : Int) : ci_ (-a1) (-a2) (-b1) (-b2) (-c1) (-c2) (-p1) (-p2) = ci_ a1 a2 b1 b2 c1 c2 p1 p2 := by unfold ci_; grind
theorem oi_neg (a1 a2 b1 b2 c1 c2 : Int) : oi_ (-a1) (-a2) (-b1) (-b2) (-c1) (-c2) = oi_ a1 a2 b1 b2 c1 c2 := by unfold oi_; grind
/-- the circle through u, 0, v -/
theorem ci_pl (u1 u2 v1 v2 z1 z2 : Int) : ci_ u1 u2 0 0 v1 v2 z1 z2 = -(oi_ u1 u2 0 0 v1 v2 * (z1 * z1 + z2 * z2) + ((u1 * u1 + u2 * u2) * v2 - (v1 * v1 + v2 * v2) * u2) * z1 + (u1 * (v1 * v1 + v2 * v2) - v1 * (u1 * u1 + u2 * u2)) * z2) := by unfold ci_ oi_; grind
/-- circles through two places -/
theorem ci_pen0 (q1 q2 r1 r2 c1 c2 k1 k2 : Int) : ci_ q1 q2 0 0 c1 c2 k1 k2 * oi_ 0 0 q1 q2 r1 r2 = ci_ 0 0 q1 q2 r1 r2 k1 k2 * oi_ q1 q2 0 0 c1 c2 + ci_ 0 0 q1 q2 r1 r2 c1 c2 * oi_ 0 0 q1 q2 k1 k2 := by unfold ci_ oi_; grind
theorem ci_pen (p1 p2 q1 q2 r1 r2 c1 c2 k1 k2 : Int) : ci_ q1 q2 p1 p2 c1 c2 k1 k2 * oi_ p1 p2 q1 q2 r1 r2 = ci_ p1 p2 q1 q2 r1 r2 k1 k2 * oi_ q1 q2 p1 p2 c1 c2 + ci_ p1 p2 q1 q2 r1 r2 c1 c2 * oi_ p1 p2 q1 q2 k1 k2 := by
  have h := ci_pen0 (q1 - p1) (q2 - p2) (r1 - p1) (r2 - p2) (c1 - p1) (c2 - p2) (k1 - p1) (k2 - p2)
  have z1 : p1 - p1 = 0 := by omega
  have z2 : p2 - p2 = 0 := by omega
  have t1 := ci_tr q1 q2 p1 p2 c1 c2 k1 k2 p1 p2
  have t2 := oi_tr p1 p2 q1 q2 r1 r2 p1 p2
  have t3 := ci_tr p1 p2 q1 q2 r1 r2 k1 k2 p1 p2
  have t4 := oi_tr q1 q2 p1 p2 c1 c2 p1 p2
  have t5 := ci_tr p1 p2 q1 q2 r1 r2 c1 c2 p1 p2
  have t6 := oi_tr p1 p2 q1 q2 k1 k2 p1 p2
  rw [z1, z2] at t1 t2 t3 t4 t5 t6
  rw [t1, t2, t3, t4, t5, t6] at h
  exact h
theorem ci_four (m1 m2 p1 p2 r1 r2 q1 q2 : Int) : ci_ m1 m2 p1 p2 r1 r2 q1 q2 = oi_ q1 q2 p1 p2 r1 r2 * ((m1 - q1) * (m1 - q1) + (m2 - q2) * (m2 - q2)) + oi_ q1 q2 r1 r2 m1 m2 * ((p1 - q1) * (p1 - q1) + (p2 - q2) * (p2 - q2)) + oi_ q1 q2 m1 m2 p1 p2 * ((r1 - q1) * (r1 - q1) + (r2 - q2) * (r2 - q2)) := by unfold ci_ oi_; grind
theorem sq_nn (x : Int) : 0 ≤ x * x := by
  rcases Int.le_total 0 x with h | h
  · exact Int.mul_nonneg h h
  · have := Int.mul_nonneg (show 0 ≤ -x by omega) (show 0 ≤ -x by omega); rw [Int.neg_mul_neg] at this; exact this
theorem sq_pos {x : Int} (h : x ≠ 0) : 0 < x * x := by
  rcases Int.lt_or_gt_of_ne h with g | g
  · have := Int.mul_pos (show 0 < -x by omega) (show 0 < -x by omega); rw [Int.neg_mul_neg] at this; exact this
  · exact Int.mul_pos g g
theorem dd_pos {a b c d : Int} (h : a ≠ c ∨ b ≠ d) : 0 < (a - c) * (a - c) + (b - d) * (b - d) := by
  have h1 := sq_nn (a - c)
  have h2 := sq_nn (b - d)
  rcases h with h | h
  · have := sq_pos (show a - c ≠ 0 by omega); omega
  · have := sq_pos (show b - d ≠ 0 by omega); omega
/-- of places on a circle, seen from one in their order left round, each turns left -/
theorem ci_turn {m1 m2 p1 p2 q1 q2 r1 r2 : Int} (h : ci_ m1 m2 p1 p2 r1 r2 q1 q2 = 0) (h1 : 0 < oi_ m1 m2 p1 p2 q1 q2) (h2 : 0 < oi_ m1 m2 q1 q2 r1 r2) : 0 < oi_ p1 p2 q1 q2 r1 r2 := by
  rw [ci_four] at h
  have e1 : oi_ q1 q2 p1 p2 r1 r2 = -oi_ p1 p2 q1 q2 r1 r2 := oi_sw _ _ _ _ _ _
  have e2 : oi_ q1 q2 r1 r2 m1 m2 = oi_ m1 m2 q1 q2 r1 r2 := (oi_rot _ _ _ _ _ _).symm
  have e3 : oi_ q1 q2 m1 m2 p1 p2 = oi_ m1 m2 p1 p2 q1 q2 := oi_rot _ _ _ _ _ _
  rw [e1, e2, e3] at h
  by_cases g : 0 < oi_ p1 p2 q1 q2 r1 r2
  · exact g
  · exfalso
    have hpq : p1 ≠ q1 ∨ p2 ≠ q2 := by
      by_cases q : p1 = q1 ∧ p2 = q2
      · rw [q.1, q.2] at h1; unfold oi_ at h1; grind
      · grind
    have a := Int.mul_nonneg (show 0 ≤ -oi_ p1 p2 q1 q2 r1 r2 by omega) (show 0 ≤ (m1 - q1) * (m1 - q1) + (m2 - q2) * (m2 - q2) by have := sq_nn (m1 - q1); have := sq_nn (m2 - q2); omega)
    have c := Int.mul_pos h2 (dd_pos hpq)
    have d := Int.mul_nonneg (Int.le_of_lt h1) (show 0 ≤ (r1 - q1) * (r1 - q1) + (r2 - q2) * (r2 - q2) by have := sq_nn (r1 - q1); have := sq_nn (r2 - q2); omega)
    omega
/-- the circle behind an edge of an empty one is empty, when it is so on that side -/
theorem ci_push {p1 p2 q1 q2 r1 r2 c1 c2 k1 k2 : Int} (hr : 0 < oi_ p1 p2 q1 q2 r1 r2) (hc : 0 < oi_ q1 q2 p1 p2 c1 c2) (hk : ci_ p1 p2 q1 q2 r1 r2 k1 k2 ≤ 0) (hcc : ci_ p1 p2 q1 q2 r1 r2 c1 c2 ≤ 0) (hl : 0 ≤ oi_ p1 p2 q1 q2 k1 k2) : ci_ q1 q2 p1 p2 c1 c2 k1 k2 ≤ 0 := by
  have h := ci_pen p1 p2 q1 q2 r1 r2 c1 c2 k1 k2
  have a := Int.mul_nonneg (show 0 ≤ -ci_ p1 p2 q1 q2 r1 r2 k1 k2 by omega) (Int.le_of_lt hc)
  have b := Int.mul_nonneg (show 0 ≤ -ci_ p1 p2 q1 q2 r1 r2 c1 c2 by omega) hl
  rw [Int.neg_mul] at a b
  by_cases g : ci_ q1 q2 p1 p2 c1 c2 k1 k2 ≤ 0
  · exact g
  · have := Int.mul_pos (show 0 < ci_ q1 q2 p1 p2 c1 c2 k1 k2 by omega) hr
    omega
/-- a place on that circle on the other side: then it is the same circle -/
theorem ci_push2 {p1 p2 q1 q2 r1 r2 c1 c2 k1 k2 : Int} (hr : 0 < oi_ p1 p2 q1 q2 r1 r2) (hc : 0 < oi_ q1 q2 p1 p2 c1 c2) (hk : ci_ p1 p2 q1 q2 r1 r2 k1 k2 ≤ 0) (hcc : ci_ p1 p2 q1 q2 r1 r2 c1 c2 ≤ 0) (hl : 0 < oi_ p1 p2 q1 q2 k1 k2) (h0 : ci_ q1 q2 p1 p2 c1 c2 k1 k2 = 0) : ci_ p1 p2 q1 q2 r1 r2 c1 c2 = 0 := by
  have h := ci_pen p1 p2 q1 q2 r1 r2 c1 c2 k1 k2
  rw [h0, Int.zero_mul] at h
  have a := Int.mul_nonneg (show 0 ≤ -ci_ p1 p2 q1 q2 r1 r2 k1 k2 by omega) (Int.le_of_lt hc)
  rw [Int.neg_mul] at a
  by_cases g : ci_ p1 p2 q1 q2 r1 r2 c1 c2 = 0
  · exact g
  · have := Int.mul_pos (show 0 < -ci_ p1 p2 q1 q2 r1 r2 c1 c2 by omega) hl
    rw [Int.neg_mul] at this
    omega
/-- a place on the line of a and b -/
theorem ci_line (a1 a2 b1 b2 c1 c2 k1 k2 : Int) : ci_ a1 a2 b1 b2 c1 c2 k1 k2 = oi_ a1 a2 b1 b2 k1 k2 * ((c1 - a1) * (c1 - b1) + (c2 - a2) * (c2 - b2)) - oi_ a1 a2 b1 b2 c1 c2 * ((k1 - a1) * (k1 - b1) + (k2 - a2) * (k2 - b2)) := by unfold ci_ oi_; grind
theorem zero_of_sum {x y : Int} (hx : x ≤ 0) (hy : y ≤ 0) (h : x + y = 0) : x = 0 ∧ y = 0 := by omega
theorem mul_z {x y : Int} (h : x * y = 0) (hx : x ≠ 0) : y = 0 := (Int.mul_eq_zero.mp h).resolve_left hx
/-- two triangles with one middle place 0 (by a slope m), both on its upper side, whose circles hold none of the other's places: one circle -/
theorem ci_over0 {m u1 u2 v1 v2 s1 s2 t1 t2 : Int} (hD : 0 < oi_ u1 u2 0 0 v1 v2) (hE : 0 < oi_ s1 s2 0 0 t1 t2) (hu : m * u1 + u2 < 0) (hv : 0 < m * v1 + v2) (hs : m * s1 + s2 < 0) (ht : 0 < m * t1 + t2)
    (h1 : ci_ u1 u2 0 0 v1 v2 s1 s2 ≤ 0) (h2 : ci_ u1 u2 0 0 v1 v2 t1 t2 ≤ 0) (h3 : ci_ s1 s2 0 0 t1 t2 u1 u2 ≤ 0) (h4 : ci_ s1 s2 0 0 t1 t2 v1 v2 ≤ 0) (z1 z2 : Int) : ci_ u1 u2 0 0 v1 v2 z1 z2 = 0 ↔ ci_ s1 s2 0 0 t1 t2 z1 z2 = 0 := by
  have pD : ∀ z1 z2, ci_ u1 u2 0 0 v1 v2 z1 z2 = -(oi_ u1 u2 0 0 v1 v2 * (z1 * z1 + z2 * z2) + ((u1 * u1 + u2 * u2) * v2 - (v1 * v1 + v2 * v2) * u2) * z1 + (u1 * (v1 * v1 + v2 * v2) - v1 * (u1 * u1 + u2 * u2)) * z2) := ci_pl u1 u2 v1 v2
  have pE : ∀ z1 z2, ci_ s1 s2 0 0 t1 t2 z1 z2 = -(oi_ s1 s2 0 0 t1 t2 * (z1 * z1 + z2 * z2) + ((s1 * s1 + s2 * s2) * t2 - (t1 * t1 + t2 * t2) * s2) * z1 + (s1 * (t1 * t1 + t2 * t2) - t1 * (s1 * s1 + s2 * s2)) * z2) := ci_pl s1 s2 t1 t2
  have du : ci_ u1 u2 0 0 v1 v2 u1 u2 = 0 := ci_self _ _ _ _ _ _
  have dv : ci_ u1 u2 0 0 v1 v2 v1 v2 = 0 := by rw [ci_rot, ci_rot]; exact ci_self _ _ _ _ _ _
  have es : ci_ s1 s2 0 0 t1 t2 s1 s2 = 0 := ci_self _ _ _ _ _ _
  have et : ci_ s1 s2 0 0 t1 t2 t1 t2 = 0 := by rw [ci_rot, ci_rot]; exact ci_self _ _ _ _ _ _
  have eD : oi_ u1 u2 0 0 v1 v2 = u2 * v1 - u1 * v2 := by unfold oi_; grind
  have eE : oi_ s1 s2 0 0 t1 t2 = s2 * t1 - s1 * t2 := by unfold oi_; grind
  generalize hDd : oi_ u1 u2 0 0 v1 v2 = D at *
  generalize hEe : oi_ s1 s2 0 0 t1 t2 = E at *
  generalize hA : (u1 * u1 + u2 * u2) * v2 - (v1 * v1 + v2 * v2) * u2 = A at pD
  generalize hB : u1 * (v1 * v1 + v2 * v2) - v1 * (u1 * u1 + u2 * u2) = B at pD
  generalize hA2 : (s1 * s1 + s2 * s2) * t2 - (t1 * t1 + t2 * t2) * s2 = A' at pE
  generalize hB2 : s1 * (t1 * t1 + t2 * t2) - t1 * (s1 * s1 + s2 * s2) = B' at pE
  clear hA hB hA2 hB2 hDd hEe
  have key : ∀ z1 z2, (E * A - D * A') * z1 + (E * B - D * B') * z2 = D * ci_ s1 s2 0 0 t1 t2 z1 z2 - E * ci_ u1 u2 0 0 v1 v2 z1 z2 := by
    intro z1 z2
    rw [pD, pE]; grind
  have ku := key u1 u2
  have kv := key v1 v2
  have ks := key s1 s2
  have kt := key t1 t2
  rw [du, Int.mul_zero] at ku
  rw [dv, Int.mul_zero] at kv
  rw [es, Int.mul_zero] at ks
  rw [et, Int.mul_zero] at kt
  generalize E * A - D * A' = α at key ku kv ks kt
  generalize E * B - D * B' = β at key ku kv ks kt
  have nn : ∀ {x y : Int}, 0 < x → y ≤ 0 → x * y ≤ 0 := by
    intro x y hx hy
    have := Int.mul_nonneg (Int.le_of_lt hx) (show 0 ≤ -y by omega)
    rw [Int.mul_neg] at this; omega
  have gu : α * u1 + β * u2 ≤ 0 := by have := nn hD h3; omega
  have gv : α * v1 + β * v2 ≤ 0 := by have := nn hD h4; omega
  have gs : 0 ≤ α * s1 + β * s2 := by have := nn hE h1; omega
  have gt : 0 ≤ α * t1 + β * t2 := by have := nn hE h2; omega
  have i1 := nn hv gu
  have i2 := nn (show 0 < -(m * u1 + u2) by omega) gv
  have i3 := Int.mul_nonneg (Int.le_of_lt ht) gs
  have i4 := Int.mul_nonneg (show 0 ≤ -(m * s1 + s2) by omega) gt
  have f1 : (m * v1 + v2) * (α * u1 + β * u2) + -(m * u1 + u2) * (α * v1 + β * v2) = D * (β * m - α) := by rw [eD]; grind
  have f2 : (m * t1 + t2) * (α * s1 + β * s2) + -(m * s1 + s2) * (α * t1 + β * t2) = E * (β * m - α) := by rw [eE]; grind
  have g0 : β * m - α = 0 := by
    rcases Int.lt_trichotomy (β * m - α) 0 with g | g | g
    · have q := Int.mul_pos hE (show 0 < -(β * m - α) by omega)
      rw [Int.mul_neg] at q
      omega
    · exact g
    · have := Int.mul_pos hD g
      omega
  rw [g0, Int.mul_zero] at f1
  obtain ⟨j1, j2⟩ := zero_of_sum i1 i2 f1
  have w1 := mul_z j1 (by omega)
  have w2 := mul_z j2 (by omega)
  have a0 : D * α = 0 := by
    have : v2 * (α * u1 + β * u2) - u2 * (α * v1 + β * v2) = 0 := by rw [w1, w2]; omega
    rw [eD]; grind
  have b0 : D * β = 0 := by
    have : v1 * (α * u1 + β * u2) - u1 * (α * v1 + β * v2) = 0 := by rw [w1, w2]; omega
    rw [eD]; grind
  have α0 := mul_z a0 (by omega)
  have β0 := mul_z b0 (by omega)
  have fin := key z1 z2
  rw [α0, β0, Int.zero_mul, Int.zero_mul] at fin
  constructor
  · intro h
    rw [h, Int.mul_zero] at fin
    exact mul_z (x := D) (by omega) (by omega)
  · intro h
    rw [h, Int.mul_zero] at fin
    exact mul_z (x := E) (by omega) (by omega)
theorem ci_over {m q1 q2 u1 u2 v1 v2 s1 s2 t1 t2 : Int} (hD : 0 < oi_ u1 u2 q1 q2 v1 v2) (hE : 0 < oi_ s1 s2 q1 q2 t1 t2) (hu : m * u1 + u2 < m * q1 + q2) (hv : m * q1 + q2 < m * v1 + v2) (hs : m * s1 + s2 < m * q1 + q2) (ht : m * q1 + q2 < m * t1 + t2)
    (h1 : ci_ u1 u2 q1 q2 v1 v2 s1 s2 ≤ 0) (h2 : ci_ u1 u2 q1 q2 v1 v2 t1 t2 ≤ 0) (h3 : ci_ s1 s2 q1 q2 t1 t2 u1 u2 ≤ 0) (h4 : ci_ s1 s2 q1 q2 t1 t2 v1 v2 ≤ 0) (z1 z2 : Int) : ci_ u1 u2 q1 q2 v1 v2 z1 z2 = 0 ↔ ci_ s1 s2 q1 q2 t1 t2 z1 z2 = 0 := by
  have c1 : ∀ z1 z2, ci_ u1 u2 q1 q2 v1 v2 z1 z2 = ci_ (u1 - q1) (u2 - q2) 0 0 (v1 - q1) (v2 - q2) (z1 - q1) (z2 - q2) := by
    intro z1 z2
    have := ci_tr u1 u2 q1 q2 v1 v2 z1 z2 q1 q2
    rw [Int.sub_self, Int.sub_self] at this; exact this.symm
  have c2 : ∀ z1 z2, ci_ s1 s2 q1 q2 t1 t2 z1 z2 = ci_ (s1 - q1) (s2 - q2) 0 0 (t1 - q1) (t2 - q2) (z1 - q1) (z2 - q2) := by
    intro z1 z2
    have := ci_tr s1 s2 q1 q2 t1 t2 z1 z2 q1 q2
    rw [Int.sub_self, Int.sub_self] at this; exact this.symm
  have o1 := oi_tr u1 u2 q1 q2 v1 v2 q1 q2
  have o2 := oi_tr s1 s2 q1 q2 t1 t2 q1 q2
  rw [Int.sub_self, Int.sub_self] at o1 o2
  rw [c1] at h1 h2 ⊢
  rw [c2] at h3 h4 ⊢
  have di : ∀ x y : Int, m * (x - q1) + (y - q2) = m * x + y - (m * q1 + q2) := by intro x y; grind
  exact ci_over0 (m := m) (by rw [o1]; exact hD) (by rw [o2]; exact hE) (by rw [di]; omega) (by rw [di]; omega) (by rw [di]; omega) (by rw [di]; omega) h1 h2 h3 h4 _ _
/-- likewise on the lower side -/
theorem ci_under {m q1 q2 u1 u2 v1 v2 s1 s2 t1 t2 : Int} (hD : oi_ u1 u2 q1 q2 v1 v2 < 0) (hE : oi_ s1 s2 q1 q2 t1 t2 < 0) (hu : m * u1 + u2 < m * q1 + q2) (hv : m * q1 + q2 < m * v1 + v2) (hs : m * s1 + s2 < m * q1 + q2) (ht : m * q1 + q2 < m * t1 + t2)
    (h1 : 0 ≤ ci_ u1 u2 q1 q2 v1 v2 s1 s2) (h2 : 0 ≤ ci_ u1 u2 q1 q2 v1 v2 t1 t2) (h3 : 0 ≤ ci_ s1 s2 q1 q2 t1 t2 u1 u2) (h4 : 0 ≤ ci_ s1 s2 q1 q2 t1 t2 v1 v2) (z1 z2 : Int) : ci_ u1 u2 q1 q2 v1 v2 z1 z2 = 0 ↔ ci_ s1 s2 q1 q2 t1 t2 z1 z2 = 0 := by
  have rev : ∀ a1 a2 c1 c2 z1 z2 : Int, ci_ (-c1) (-c2) (-q1) (-q2) (-a1) (-a2) (-z1) (-z2) = -ci_ a1 a2 q1 q2 c1 c2 z1 z2 := by
    intro a1 a2 c1 c2 z1 z2
    rw [ci_neg]; unfold ci_; grind
  have ro : ∀ a1 a2 c1 c2 : Int, oi_ (-c1) (-c2) (-q1) (-q2) (-a1) (-a2) = -oi_ a1 a2 q1 q2 c1 c2 := by
    intro a1 a2 c1 c2
    rw [oi_neg]; unfold oi_; grind
  have ng : ∀ x y : Int, m * -x + -y = -(m * x + y) := by intro x y; grind
  have h := ci_over (m := m) (q1 := -q1) (q2 := -q2) (u1 := -v1) (u2 := -v2) (v1 := -u1) (v2 := -u2) (s1 := -t1) (s2 := -t2) (t1 := -s1) (t2 := -s2) (by rw [ro]; omega) (by rw [ro]; omega) (by rw [ng, ng]; omega) (by rw [ng, ng]; omega) (by rw [ng, ng]; omega) (by rw [ng, ng]; omega)
    (by rw [rev]; omega) (by rw [rev]; omega) (by rw [rev]; omega) (by rw [rev]; omega) (-z1) (-z2)
  rw [rev, rev] at h
  constructor
  · intro g; have := h.mp (by omega); omega
  · intro g; have := h.mpr (by omega); omega
end DEL
