section NEU
variable {n m : Nat} {X Y : Nat → Rat} {F T : Nat → Nat} {b : Nat → Bool}
/-- a piece that goes down from w: what is to the right of its middle (seen from above: to the left of the way down) -/
theorem net_dn (N : Net_ n m X Y F T b) {w k : Nat} (hk : k < m) (hw : ic_ F T w k = true) (hd : dy_ Y F T w k < 0) : mu_ m X Y F T b k = Bool.xor (cd_ m X Y F T b w) (xs_ m (fun j => b j && (ic_ F T w j && decide (dy_ Y F T w j < 0 ∧ 0 < cr_ X Y F T w k j)))) := by
  apply bool_x3
  unfold mu_ cd_
  rw [← xs_x, ← xs_x]
  rw [← xs_cut N.1 N.2.2.2.2.2 (fun v => decide ((mx_ Y F T k < Y v ∧ Y v < Y w) ∧ tr_ (mx_ X F T k) (mx_ Y F T k) (X w) (Y w) (X v) (Y v) < 0))]
  apply xs_cg
  intro j hj
  cases hb : b j with
  | false => rfl
  | true =>
  simp only [Bool.true_and]
  have hm2 : mx_ Y F T k = Y w + dy_ Y F T w k * (1 / 2) := mx_ot hw Y
  have hm1 : mx_ X F T k = X w + dx_ X F T w k * (1 / 2) := mx_ot hw X
  rw [xor_lh (fun v => decide ((mx_ Y F T k < Y v ∧ Y v < Y w) ∧ tr_ (mx_ X F T k) (mx_ Y F T k) (X w) (Y w) (X v) (Y v) < 0)) Y F T j]
  have hot : Y (ot_ F T w j) = Y w + dy_ Y F T w j := by unfold dy_; grind
  have hox : X (ot_ F T w j) = X w + dx_ X F T w j := by unfold dx_; grind
  have hwy : ¬ (Y w < Y w) := by grind
  cases hi : ic_ F T w j with
  | true =>
    obtain ⟨i1, i2, i3⟩ := ic_lh (Y := Y) hi X
    unfold up_j
    rcases gm_tri (dy_ Y F T w j) 0 with q | q | q
    · obtain ⟨e1, e2⟩ := i2 q
      rw [e1, e2]
      have t1 : tr_ (X (ot_ F T w j)) (Y (ot_ F T w j)) (X w) (Y w) (mx_ X F T k) (mx_ Y F T k) = cr_ X Y F T w k j * (1 / 2) := by unfold tr_ cr_; rw [hm1, hm2, hot, hox]; grind
      have t2 : tr_ (mx_ X F T k) (mx_ Y F T k) (X w) (Y w) (X (ot_ F T w j)) (Y (ot_ F T w j)) = -(cr_ X Y F T w k j * (1 / 2)) := by unfold tr_ cr_; rw [hm1, hm2, hot, hox]; grind
      have c1 : (-(cr_ X Y F T w k j * (1 / 2)) < 0) ↔ 0 < cr_ X Y F T w k j := by constructor <;> intro h <;> grind
      have c2 := (cr_neg_pos (x := cr_ X Y F T w k j)).2
      have n1 : mx_ Y F T k < Y w := by grind
      have n2 : Y (ot_ F T w j) < Y w := by grind
      rw [t1, t2]
      by_cases hjk : j = k
      · subst hjk
        have z : cr_ X Y F T w j j = 0 := by unfold cr_; grind
        rw [z]
        simp
      · have z : (j == k) = false := by simp only [beq_eq_false_iff_ne, ne_eq]; exact hjk
        rw [z]
        by_cases g : Y (ot_ F T w j) ≤ mx_ Y F T k
        · have g2 : ¬ (mx_ Y F T k < Y (ot_ F T w j)) := by grind
          simp only [n1, n2, g, g2, c1, c2, q, hwy, true_and, false_and, and_false, decide_false, Bool.and_false, Bool.not_true, Bool.not_false, Bool.true_and, Bool.false_and, Bool.xor_false, Bool.false_xor, Bool.xor_self]
        · have g2 : mx_ Y F T k < Y (ot_ F T w j) := by grind
          simp only [n1, n2, g, g2, c1, c2, q, hwy, true_and, false_and, and_false, decide_false, Bool.and_false, Bool.not_true, Bool.not_false, Bool.true_and, Bool.false_and, Bool.xor_false, Bool.false_xor, Bool.xor_self]
    · obtain ⟨e1, e2⟩ := i3 q
      have n1 : ¬ (Y (lo_ Y F T j) ≤ mx_ Y F T k ∧ mx_ Y F T k < Y (hi_ Y F T j)) := by grind
      have n2 : ¬ (Y (lo_ Y F T j) < Y w) := by grind
      have n4 : ¬ (Y (hi_ Y F T j) < Y w) := by grind
      have n3 : ¬ (dy_ Y F T w j < 0) := by grind
      simp only [n1, n2, n3, n4, false_and, and_false, decide_false, Bool.and_false, Bool.not_true, Bool.false_and, Bool.xor_false]
    · obtain ⟨e1, e2⟩ := i1 q
      have n1 : ¬ (Y w ≤ mx_ Y F T k) := by grind
      have n2 : ¬ (Y (ot_ F T w j) < Y w) := by grind
      have n3 : ¬ (dy_ Y F T w j < 0) := by grind
      rw [e1, e2]
      simp only [n1, n2, n3, hwy, false_and, and_false, decide_false, Bool.and_false, Bool.not_true, Bool.false_and, Bool.xor_false]
  | false =>
    have hjk : j ≠ k := by intro e; subst e; rw [hw] at hi; cases hi
    have z : (j == k) = false := by simp only [beq_eq_false_iff_ne, ne_eq]; exact hjk
    obtain ⟨-, -, A1, A2⟩ := net_ap2 N hj hk hw hi
    have hpq : mx_ Y F T k < Y w := by grind
    rw [z]
    simp only [Bool.not_false, Bool.true_and, Bool.false_and, Bool.xor_false]
    unfold up_j dn_j
    rcases gm_tri (Y (lo_ Y F T j)) (Y (hi_ Y F T j)) with g | g | g
    · exact st_dn A1 g hpq
    · have n1 : ¬ (Y (lo_ Y F T j) ≤ mx_ Y F T k ∧ mx_ Y F T k < Y (hi_ Y F T j)) := by grind
      have n2 : ¬ (Y (lo_ Y F T j) < Y w ∧ Y w ≤ Y (hi_ Y F T j)) := by grind
      simp only [n1, n2, false_and, decide_false, Bool.xor_false]
      by_cases c : mx_ Y F T k < Y (lo_ Y F T j) ∧ Y (lo_ Y F T j) < Y w
      · have e := st_lv A1 g hpq (by grind) (by grind)
        have c2 : mx_ Y F T k < Y (hi_ Y F T j) ∧ Y (hi_ Y F T j) < Y w := by grind
        simp only [c, c2, e, true_and, and_self, Bool.xor_self]
      · have c2 : ¬ (mx_ Y F T k < Y (hi_ Y F T j) ∧ Y (hi_ Y F T j) < Y w) := by grind
        simp only [c, c2, false_and, decide_false, Bool.xor_false]
    · exfalso
      rcases lo_hi X Y F T j with ⟨k1, k2, k3⟩ | ⟨k1, k2, k3⟩ <;> rw [k1, k2] at g <;> grind
theorem bool_x2 {a c : Bool} (h : Bool.xor a c = false) : a = c := by cases a <;> cases c <;> first | rfl | cases h
/-- a level piece from w: above its middle is what is above w, and all that goes up from w when it leads to the left; likewise below -/
theorem net_lv (N : Net_ n m X Y F T b) {w k : Nat} (hk : k < m) (hw : ic_ F T w k = true) (hd : dy_ Y F T w k = 0) : mu_ m X Y F T b k = Bool.xor (cu_ m X Y F T b w) (xs_ m (fun j => b j && (ic_ F T w j && decide (0 < dy_ Y F T w j ∧ dx_ X F T w k < 0)))) ∧ md_ m X Y F T b k = Bool.xor (cd_ m X Y F T b w) (xs_ m (fun j => b j && (ic_ F T w j && decide (dy_ Y F T w j < 0 ∧ dx_ X F T w k < 0)))) := by
  have hm2 : mx_ Y F T k = Y w := by rw [mx_ot hw Y]; show Y w + dy_ Y F T w k * (1 / 2) = Y w; rw [hd]; grind
  have hm1 : mx_ X F T k = X w + dx_ X F T w k * (1 / 2) := mx_ot hw X
  have hwy : ¬ (Y w < Y w) := by grind
  have hwe : Y w ≤ Y w := by grind
  have hdx : dx_ X F T w k < 0 ∨ 0 < dx_ X F T w k := by
    have h2 := N.2.1 k hk
    have : dx_ X F T w k ≠ 0 := by
      intro e
      unfold dx_ dy_ at *
      rcases ic_ot hw with ⟨h1, h3⟩ | ⟨h1, h3⟩ <;> rw [← h3] at e hd <;> rw [h1] at h2 <;> grind
    grind
  have sg : ∀ (a d : Rat), a * (d * (1 / 2)) = a * d * (1 / 2) := by intro a d; grind
  constructor
  · unfold mu_ cu_
    rw [← xs_x]
    apply xs_cg
    intro j hj
    cases hb : b j with
    | false => rfl
    | true =>
    simp only [Bool.true_and]
    have hot : Y (ot_ F T w j) = Y w + dy_ Y F T w j := by unfold dy_; grind
    have hox : X (ot_ F T w j) = X w + dx_ X F T w j := by unfold dx_; grind
    cases hi : ic_ F T w j with
    | true =>
      obtain ⟨i1, i2, i3⟩ := ic_lh (Y := Y) hi X
      unfold up_j
      rw [hm2]
      rcases gm_tri (dy_ Y F T w j) 0 with q | q | q
      · obtain ⟨e1, e2⟩ := i2 q
        have n3 : ¬ (0 < dy_ Y F T w j) := by grind
        rw [e1, e2]
        simp only [n3, hwy, false_and, and_false, decide_false, Bool.and_false, Bool.not_true, Bool.false_and, Bool.xor_false]
      · obtain ⟨e1, e2⟩ := i3 q
        have n3 : ¬ (0 < dy_ Y F T w j) := by grind
        rw [e1, e2]
        simp only [n3, hwy, false_and, and_false, decide_false, Bool.and_false, Bool.not_true, Bool.false_and, Bool.xor_false]
      · obtain ⟨e1, e2⟩ := i1 q
        have z : (j == k) = false := by simp only [beq_eq_false_iff_ne, ne_eq]; intro e; subst e; grind
        have t1 : tr_ (X w) (Y w) (X (ot_ F T w j)) (Y (ot_ F T w j)) (mx_ X F T k) (Y w) = -(dy_ Y F T w j * dx_ X F T w k * (1 / 2)) := by unfold tr_; rw [hm1, hot, hox]; grind
        have n2 : Y w < Y (ot_ F T w j) := by grind
        rw [e1, e2, t1, z]
        have c1 : 0 < -(dy_ Y F T w j * dx_ X F T w k * (1 / 2)) ↔ dx_ X F T w k < 0 := by
          rcases hdx with h | h
          · have := Rat.mul_pos q (show 0 < -dx_ X F T w k by grind)
            constructor <;> intro _ <;> grind
          · have := Rat.mul_pos q h
            constructor <;> intro _ <;> grind
        simp only [c1, n2, q, hwe, true_and, and_self, Bool.not_true, Bool.not_false, Bool.true_and, Bool.false_and, Bool.false_xor]
    | false =>
      have hjk : j ≠ k := by intro e; subst e; rw [hw] at hi; cases hi
      have z : (j == k) = false := by simp only [beq_eq_false_iff_ne, ne_eq]; exact hjk
      obtain ⟨A1, -, -, -⟩ := net_ap2 N hj hk hw hi
      rw [z]
      simp only [Bool.not_false, Bool.true_and, Bool.false_and, Bool.xor_false]
      unfold up_j
      rw [hm2] at A1 ⊢
      by_cases g : Y (lo_ Y F T j) ≤ Y w ∧ Y w < Y (hi_ Y F T j)
      · have e := st_eq A1 (by grind) g.1 (Rat.le_of_lt g.2)
        simp only [g, e, true_and]
      · simp only [g, false_and]
  · unfold md_ cd_
    rw [← xs_x]
    apply xs_cg
    intro j hj
    cases hb : b j with
    | false => rfl
    | true =>
    simp only [Bool.true_and]
    have hot : Y (ot_ F T w j) = Y w + dy_ Y F T w j := by unfold dy_; grind
    have hox : X (ot_ F T w j) = X w + dx_ X F T w j := by unfold dx_; grind
    cases hi : ic_ F T w j with
    | true =>
      obtain ⟨i1, i2, i3⟩ := ic_lh (Y := Y) hi X
      unfold dn_j
      rw [hm2]
      rcases gm_tri (dy_ Y F T w j) 0 with q | q | q
      · obtain ⟨e1, e2⟩ := i2 q
        have z : (j == k) = false := by simp only [beq_eq_false_iff_ne, ne_eq]; intro e; subst e; grind
        have t1 : tr_ (X (ot_ F T w j)) (Y (ot_ F T w j)) (X w) (Y w) (mx_ X F T k) (Y w) = dy_ Y F T w j * dx_ X F T w k * (1 / 2) := by unfold tr_; rw [hm1, hot, hox]; grind
        have n2 : Y (ot_ F T w j) < Y w := by grind
        rw [e1, e2, t1, z]
        have c1 : 0 < dy_ Y F T w j * dx_ X F T w k * (1 / 2) ↔ dx_ X F T w k < 0 := by
          rcases hdx with h | h
          · have := Rat.mul_pos (show 0 < -dy_ Y F T w j by grind) (show 0 < -dx_ X F T w k by grind)
            constructor <;> intro _ <;> grind
          · have := Rat.mul_pos (show 0 < -dy_ Y F T w j by grind) h
            constructor <;> intro _ <;> grind
        simp only [c1, n2, q, hwe, true_and, and_self, Bool.not_true, Bool.not_false, Bool.true_and, Bool.false_and, Bool.false_xor]
      · obtain ⟨e1, e2⟩ := i3 q
        have n3 : ¬ (dy_ Y F T w j < 0) := by grind
        rw [e1, e2]
        simp only [n3, hwy, false_and, and_false, decide_false, Bool.and_false, Bool.not_true, Bool.false_and, Bool.xor_false]
      · obtain ⟨e1, e2⟩ := i1 q
        have n3 : ¬ (dy_ Y F T w j < 0) := by grind
        rw [e1, e2]
        simp only [n3, hwy, false_and, and_false, decide_false, Bool.and_false, Bool.not_true, Bool.false_and, Bool.xor_false]
    | false =>
      have hjk : j ≠ k := by intro e; subst e; rw [hw] at hi; cases hi
      have z : (j == k) = false := by simp only [beq_eq_false_iff_ne, ne_eq]; exact hjk
      obtain ⟨A1, -, -, -⟩ := net_ap2 N hj hk hw hi
      rw [z]
      simp only [Bool.not_false, Bool.true_and, Bool.false_and, Bool.xor_false]
      unfold dn_j
      rw [hm2] at A1 ⊢
      by_cases g : Y (lo_ Y F T j) < Y w ∧ Y w ≤ Y (hi_ Y F T j)
      · have e := st_eq A1 (by grind) (Rat.le_of_lt g.1) g.2
        simp only [g, e, true_and]
      · simp only [g, false_and]
/-- what is above w and what is below it differ by the level piece to the right -/
theorem net_ud (N : Net_ n m X Y F T b) {w : Nat} (hw : w < n) : Bool.xor (cu_ m X Y F T b w) (cd_ m X Y F T b w) = xs_ m (fun j => b j && (ic_ F T w j && decide (dy_ Y F T w j = 0 ∧ 0 < dx_ X F T w j))) := by
  apply bool_x2
  unfold cu_ cd_
  rw [← xs_x, ← xs_x]
  rw [← xs_cut N.1 N.2.2.2.2.2 (fun v => decide (Y v = Y w ∧ X w < X v))]
  apply xs_cg
  intro j hj
  cases hb : b j with
  | false => rfl
  | true =>
  simp only [Bool.true_and]
  have hot : Y (ot_ F T w j) = Y w + dy_ Y F T w j := by unfold dy_; grind
  have hox : X (ot_ F T w j) = X w + dx_ X F T w j := by unfold dx_; grind
  cases hi : ic_ F T w j with
  | true =>
    simp only [Bool.not_true, Bool.false_and, Bool.xor_false, Bool.false_xor, Bool.true_and]
    have n0 : ¬ (X w < X w) := by grind
    have e : (Y (ot_ F T w j) = Y w ∧ X w < X (ot_ F T w j)) ↔ (dy_ Y F T w j = 0 ∧ 0 < dx_ X F T w j) := by rw [hot, hox]; constructor <;> intro h <;> grind
    rcases ic_ot hi with ⟨h1, h2⟩ | ⟨h1, h2⟩
    · rw [h1, h2]; simp only [n0, and_false, decide_false, Bool.false_xor, e]
    · rw [h1, h2]; simp only [n0, and_false, decide_false, Bool.xor_false, e]
  | false =>
    simp only [Bool.not_false, Bool.false_and, Bool.xor_false, Bool.true_and]
    rw [xor_lh (fun v => decide (Y v = Y w ∧ X w < X v)) Y F T j]
    unfold up_j dn_j
    have hne : F j ≠ w ∧ T j ≠ w := by
      unfold ic_ at hi
      simp only [Bool.or_eq_false_iff, beq_eq_false_iff_ne, ne_eq] at hi
      exact hi
    have hF := N.1 j hj
    have hlh : lo_ Y F T j < n ∧ hi_ Y F T j < n ∧ lo_ Y F T j ≠ w ∧ hi_ Y F T j ≠ w := by
      rcases lo_hi X Y F T j with ⟨k1, k2, -⟩ | ⟨k1, k2, -⟩ <;> rw [k1, k2] <;> grind
    obtain ⟨L1, L2, L3, L4⟩ := hlh
    rcases gm_tri (Y (lo_ Y F T j)) (Y (hi_ Y F T j)) with g | g | g
    · rcases gm_tri (Y (lo_ Y F T j)) (Y w) with p | p | p
      · rcases gm_tri (Y (hi_ Y F T j)) (Y w) with r | r | r
        · have a1 : ¬ (Y w < Y (hi_ Y F T j)) := by grind
          have a2 : ¬ (Y w ≤ Y (hi_ Y F T j)) := by grind
          have a3 : ¬ (Y (lo_ Y F T j) = Y w) := by grind
          have a4 : ¬ (Y (hi_ Y F T j) = Y w) := by grind
          simp only [a1, a2, a3, a4, and_false, false_and, decide_false, Bool.xor_false]
        · have a1 : ¬ (Y w < Y (hi_ Y F T j)) := by grind
          have a2 : Y w ≤ Y (hi_ Y F T j) := by grind
          have a3 : ¬ (Y (lo_ Y F T j) = Y w) := by grind
          have e : 0 < tr_ (X (lo_ Y F T j)) (Y (lo_ Y F T j)) (X (hi_ Y F T j)) (Y (hi_ Y F T j)) (X w) (Y w) ↔ X w < X (hi_ Y F T j) := by
            have t : tr_ (X (lo_ Y F T j)) (Y (lo_ Y F T j)) (X (hi_ Y F T j)) (Y (hi_ Y F T j)) (X w) (Y w) = (X (hi_ Y F T j) - X w) * (Y (hi_ Y F T j) - Y (lo_ Y F T j)) := by unfold tr_; rw [← r]; grind
            rw [t, Rat.mul_pos_iff_of_pos_right (by grind)]
            constructor <;> intro h <;> grind
          have r1 : (Y (hi_ Y F T j) = Y w) = True := eq_true r
          simp only [p, r1, a1, a2, a3, e, true_and, and_true, and_false, false_and, decide_false, Bool.xor_false, Bool.false_xor]
        · have a1 : Y (lo_ Y F T j) ≤ Y w := by grind
          have a2 : Y w ≤ Y (hi_ Y F T j) := by grind
          have a3 : ¬ (Y (lo_ Y F T j) = Y w) := by grind
          have a4 : ¬ (Y (hi_ Y F T j) = Y w) := by grind
          simp only [p, r, a1, a2, a3, a4, and_self, true_and, false_and, decide_false, Bool.xor_self]
      · have a1 : Y (lo_ Y F T j) ≤ Y w := by grind
        have a2 : Y w < Y (hi_ Y F T j) := by grind
        have a3 : ¬ (Y (lo_ Y F T j) < Y w) := by grind
        have a4 : ¬ (Y (hi_ Y F T j) = Y w) := by grind
        have e : 0 < tr_ (X (lo_ Y F T j)) (Y (lo_ Y F T j)) (X (hi_ Y F T j)) (Y (hi_ Y F T j)) (X w) (Y w) ↔ X w < X (lo_ Y F T j) := by
          have t : tr_ (X (lo_ Y F T j)) (Y (lo_ Y F T j)) (X (hi_ Y F T j)) (Y (hi_ Y F T j)) (X w) (Y w) = (X (lo_ Y F T j) - X w) * (Y (hi_ Y F T j) - Y (lo_ Y F T j)) := by unfold tr_; rw [← p]; grind
          rw [t, Rat.mul_pos_iff_of_pos_right (by grind)]
          constructor <;> intro h <;> grind
        have p1 : (Y (lo_ Y F T j) = Y w) = True := eq_true p
        simp only [a1, a2, a3, a4, e, p1, true_and, and_self, false_and, decide_false, Bool.xor_false]
      · have a1 : ¬ (Y (lo_ Y F T j) ≤ Y w) := by grind
        have a2 : ¬ (Y (lo_ Y F T j) < Y w) := by grind
        have a3 : ¬ (Y (lo_ Y F T j) = Y w) := by grind
        have a4 : ¬ (Y (hi_ Y F T j) = Y w) := by grind
        simp only [a1, a2, a3, a4, false_and, decide_false, Bool.xor_false]
    · have a1 : ¬ (Y (lo_ Y F T j) ≤ Y w ∧ Y w < Y (hi_ Y F T j)) := by grind
      have a2 : ¬ (Y (lo_ Y F T j) < Y w ∧ Y w ≤ Y (hi_ Y F T j)) := by grind
      simp only [a1, a2, false_and, decide_false, Bool.xor_false]
      by_cases c : Y (lo_ Y F T j) = Y w
      · have c2 : Y (hi_ Y F T j) = Y w := by grind
        simp only [c, c2, true_and]
        have hop : ∀ u : Rat, 0 < u → u < 1 → (1 - u) * X (lo_ Y F T j) + u * X (hi_ Y F T j) = X w → False := by
          intro u u0 u1 hu
          rcases lo_hi X Y F T j with ⟨k1, k2, -⟩ | ⟨k1, k2, -⟩ <;> rw [k1] at hu c <;> rw [k2] at hu c2
          · exact N.2.2.2.1 j w hj hw u u0 u1 hu (by rw [c, c2]; grind)
          · exact N.2.2.2.1 j w hj hw (1 - u) (by grind) (by grind) (by rw [← hu]; grind) (by rw [c, c2]; grind)
        have nl : X (lo_ Y F T j) ≠ X w := fun e => L3 (N.2.2.2.2.1 _ _ L1 hw e c)
        have nh : X (hi_ Y F T j) ≠ X w := fun e => L4 (N.2.2.2.2.1 _ _ L2 hw e c2)
        have lt_case : ∀ {x z : Rat}, x < X w → X w < z → ∃ u : Rat, 0 < u ∧ u < 1 ∧ (1 - u) * x + u * z = X w := by
          intro x z h1 h2
          have e := Rat.inv_mul_cancel (z - x) (by grind)
          have i := Rat.inv_pos.mpr (show 0 < z - x by grind)
          have m1 := Rat.mul_pos (show 0 < X w - x by grind) i
          have m2 := Rat.mul_pos (show 0 < z - X w by grind) i
          exact ⟨(X w - x) * (z - x)⁻¹, m1, by grind, by grind⟩
        have e : X w < X (lo_ Y F T j) ↔ X w < X (hi_ Y F T j) := by
          constructor
          · intro h
            rcases gm_tri (X w) (X (hi_ Y F T j)) with r | r | r
            · exact r
            · exact absurd r.symm nh
            · obtain ⟨u, u0, u1, hu⟩ := lt_case r h
              exact (hop (1 - u) (by grind) (by grind) (by rw [← hu]; grind)).elim
          · intro h
            rcases gm_tri (X w) (X (lo_ Y F T j)) with r | r | r
            · exact r
            · exact absurd r.symm nl
            · obtain ⟨u, u0, u1, hu⟩ := lt_case r h
              exact (hop u u0 u1 hu).elim
        simp only [e, Bool.xor_self]
      · have c2 : ¬ (Y (hi_ Y F T j) = Y w) := by grind
        simp only [c, c2, false_and, decide_false, Bool.xor_false]
    · exfalso
      rcases lo_hi X Y F T j with ⟨k1, k2, k3⟩ | ⟨k1, k2, k3⟩ <;> rw [k1, k2] at g <;> grind
end NEU
