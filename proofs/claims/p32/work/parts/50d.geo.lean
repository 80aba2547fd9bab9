section NET
/-- places and pieces between them: no two pieces have more in common than ends, no place lies inside a piece; each place's degree (of the pieces with b) is even -/
def Net_ (n m : Nat) (X Y : Nat → Rat) (F T : Nat → Nat) (b : Nat → Bool) : Prop :=
  (∀ k, k < m → F k < n ∧ T k < n) ∧ (∀ k, k < m → X (F k) ≠ X (T k) ∨ Y (F k) ≠ Y (T k)) ∧
  (∀ j k, j < m → k < m → j ≠ k → ∀ u v : Rat, 0 ≤ u → u ≤ 1 → 0 ≤ v → v ≤ 1 → (1 - u) * X (F j) + u * X (T j) = (1 - v) * X (F k) + v * X (T k) → (1 - u) * Y (F j) + u * Y (T j) = (1 - v) * Y (F k) + v * Y (T k) → ∃ w, (w = F j ∨ w = T j) ∧ (w = F k ∨ w = T k) ∧ (1 - u) * X (F j) + u * X (T j) = X w ∧ (1 - u) * Y (F j) + u * Y (T j) = Y w) ∧
  (∀ k w, k < m → w < n → ∀ u : Rat, 0 < u → u < 1 → (1 - u) * X (F k) + u * X (T k) = X w → (1 - u) * Y (F k) + u * Y (T k) = Y w → False) ∧
  (∀ i j, i < n → j < n → X i = X j → Y i = Y j → i = j) ∧
  ∀ w, w < n → xs_ m (fun k => b k && Bool.xor (F k == w) (T k == w)) = false
def lo_ (Y : Nat → Rat) (F T : Nat → Nat) (j : Nat) : Nat := if Y (F j) < Y (T j) then F j else T j
def hi_ (Y : Nat → Rat) (F T : Nat → Nat) (j : Nat) : Nat := if Y (F j) < Y (T j) then T j else F j
/-- does a line from p to the right cross piece j: a bit above p, a bit below it -/
def up_j (X Y : Nat → Rat) (F T : Nat → Nat) (p1 p2 : Rat) (j : Nat) : Bool := decide ((Y (lo_ Y F T j) ≤ p2 ∧ p2 < Y (hi_ Y F T j)) ∧ 0 < tr_ (X (lo_ Y F T j)) (Y (lo_ Y F T j)) (X (hi_ Y F T j)) (Y (hi_ Y F T j)) p1 p2)
def dn_j (X Y : Nat → Rat) (F T : Nat → Nat) (p1 p2 : Rat) (j : Nat) : Bool := decide ((Y (lo_ Y F T j) < p2 ∧ p2 ≤ Y (hi_ Y F T j)) ∧ 0 < tr_ (X (lo_ Y F T j)) (Y (lo_ Y F T j)) (X (hi_ Y F T j)) (Y (hi_ Y F T j)) p1 p2)
def ic_ (F T : Nat → Nat) (w j : Nat) : Bool := F j == w || T j == w
def ot_ (F T : Nat → Nat) (w j : Nat) : Nat := if F j = w then T j else F j
def dx_ (X : Nat → Rat) (F T : Nat → Nat) (w j : Nat) : Rat := X (ot_ F T w j) - X w
def dy_ (Y : Nat → Rat) (F T : Nat → Nat) (w j : Nat) : Rat := Y (ot_ F T w j) - Y w
def cr_ (X Y : Nat → Rat) (F T : Nat → Nat) (w k j : Nat) : Rat := dx_ X F T w k * dy_ Y F T w j - dy_ Y F T w k * dx_ X F T w j
/-- what a place is inside of, by the pieces that are not incident; and the middle of a piece, by all others -/
def cu_ (m : Nat) (X Y : Nat → Rat) (F T : Nat → Nat) (b : Nat → Bool) (w : Nat) : Bool := xs_ m (fun j => b j && (!ic_ F T w j && up_j X Y F T (X w) (Y w) j))
def cd_ (m : Nat) (X Y : Nat → Rat) (F T : Nat → Nat) (b : Nat → Bool) (w : Nat) : Bool := xs_ m (fun j => b j && (!ic_ F T w j && dn_j X Y F T (X w) (Y w) j))
def mx_ (X : Nat → Rat) (F T : Nat → Nat) (k : Nat) : Rat := (X (F k) + X (T k)) * (1 / 2)
def mu_ (m : Nat) (X Y : Nat → Rat) (F T : Nat → Nat) (b : Nat → Bool) (k : Nat) : Bool := xs_ m (fun j => b j && (!(j == k) && up_j X Y F T (mx_ X F T k) (mx_ Y F T k) j))
def md_ (m : Nat) (X Y : Nat → Rat) (F T : Nat → Nat) (b : Nat → Bool) (k : Nat) : Bool := xs_ m (fun j => b j && (!(j == k) && dn_j X Y F T (mx_ X F T k) (mx_ Y F T k) j))
variable {n m : Nat} {X Y : Nat → Rat} {F T : Nat → Nat} {b : Nat → Bool}
theorem lo_hi (X Y : Nat → Rat) (F T : Nat → Nat) (j : Nat) : (lo_ Y F T j = F j ∧ hi_ Y F T j = T j ∧ Y (F j) < Y (T j)) ∨ (lo_ Y F T j = T j ∧ hi_ Y F T j = F j ∧ Y (T j) ≤ Y (F j)) := by
  unfold lo_ hi_
  by_cases h : Y (F j) < Y (T j)
  · rw [if_pos h, if_pos h]; exact Or.inl ⟨rfl, rfl, h⟩
  · rw [if_neg h, if_neg h]; exact Or.inr ⟨rfl, rfl, by grind⟩
/-- an incident piece: one end is w, the other one the other -/
theorem ic_ot {w j : Nat} (h : ic_ F T w j = true) : (F j = w ∧ T j = ot_ F T w j) ∨ (T j = w ∧ F j = ot_ F T w j) := by
  unfold ic_ at h
  unfold ot_
  by_cases q : F j = w
  · rw [if_pos q]; exact Or.inl ⟨q, rfl⟩
  · rw [if_neg q]
    right
    simp only [Bool.or_eq_true, beq_iff_eq] at h
    exact ⟨h.resolve_left q, rfl⟩
theorem ic_lh {w j : Nat} (h : ic_ F T w j = true) (X : Nat → Rat) : (0 < dy_ Y F T w j → lo_ Y F T j = w ∧ hi_ Y F T j = ot_ F T w j) ∧ (dy_ Y F T w j < 0 → hi_ Y F T j = w ∧ lo_ Y F T j = ot_ F T w j) ∧ (dy_ Y F T w j = 0 → Y (lo_ Y F T j) = Y w ∧ Y (hi_ Y F T j) = Y w) := by
  unfold dy_
  rcases ic_ot h with ⟨h1, h2⟩ | ⟨h1, h2⟩ <;> rcases lo_hi X Y F T j with ⟨k1, k2, k3⟩ | ⟨k1, k2, k3⟩ <;> rw [k1, k2, h1, h2] <;> rw [h1, h2] at k3 <;> refine ⟨fun q => ?_, fun q => ?_, fun q => ?_⟩ <;> first | exact ⟨rfl, rfl⟩ | (exfalso; grind) | (constructor <;> grind)
theorem mx_ot {w k : Nat} (h : ic_ F T w k = true) (X : Nat → Rat) : mx_ X F T k = X w + dx_ X F T w k * (1 / 2) := by
  unfold mx_ dx_
  rcases ic_ot h with ⟨h1, h2⟩ | ⟨h1, h2⟩ <;> rw [← h2, h1] <;> grind
theorem dxy_ (X : Nat → Rat) (F T : Nat → Nat) : dy_ X F T = dx_ X F T := rfl
/-- a piece that is not incident has nothing in common with the half of an incident one -/
theorem net_ap (N : Net_ n m X Y F T b) {w j k : Nat} (hj : j < m) (hk : k < m) (hw : ic_ F T w k = true) (hn : ic_ F T w j = false) {u v : Rat} (u0 : 0 ≤ u) (u1 : u ≤ 1) (v0 : 0 ≤ v) (v1 : v ≤ 1) (h1 : (1 - v) * X (F j) + v * X (T j) = X w + u * (1 / 2) * dx_ X F T w k) (h2 : (1 - v) * Y (F j) + v * Y (T j) = Y w + u * (1 / 2) * dy_ Y F T w k) : False := by
  obtain ⟨N1, N2, N3, N4, N5, N6⟩ := N
  have hne : j ≠ k := by intro e; subst e; rw [hw] at hn; cases hn
  have hnj : F j ≠ w ∧ T j ≠ w := by
    unfold ic_ at hn
    simp only [Bool.or_eq_false_iff, beq_eq_false_iff_ne, ne_eq] at hn
    exact hn
  have hd := N2 k hk
  have hf := N1 k hk
  rcases ic_ot hw with ⟨e1, e2⟩ | ⟨e1, e2⟩
  · obtain ⟨z, hz1, hz2, hz3, hz4⟩ := N3 k j hk hj (fun e => hne e.symm) (u * (1 / 2)) v (by grind) (by grind) v0 v1 (by rw [h1]; unfold dx_; rw [← e2, e1]; grind) (by rw [h2]; unfold dy_; rw [← e2, e1]; grind)
    rcases hz1 with q | q
    · subst q; grind
    · subst q
      have : (1 - u * (1 / 2)) * (X (F k) - X (T k)) = 0 := by grind
      have g : (1 - u * (1 / 2)) * (Y (F k) - Y (T k)) = 0 := by grind
      rcases Rat.mul_eq_zero.mp this with p | p
      · grind
      · rcases Rat.mul_eq_zero.mp g with p | p <;> grind
  · obtain ⟨z, hz1, hz2, hz3, hz4⟩ := N3 k j hk hj (fun e => hne e.symm) (1 - u * (1 / 2)) v (by grind) (by grind) v0 v1 (by rw [h1]; unfold dx_; rw [← e2, e1]; grind) (by rw [h2]; unfold dy_; rw [← e2, e1]; grind)
    rcases hz1 with q | q
    · subst q
      have : (1 - u * (1 / 2)) * (X (F k) - X (T k)) = 0 := by grind
      have g : (1 - u * (1 / 2)) * (Y (F k) - Y (T k)) = 0 := by grind
      rcases Rat.mul_eq_zero.mp this with p | p
      · grind
      · rcases Rat.mul_eq_zero.mp g with p | p <;> grind
    · subst q; grind
theorem net_ap2 (N : Net_ n m X Y F T b) {w j k : Nat} (hj : j < m) (hk : k < m) (hw : ic_ F T w k = true) (hn : ic_ F T w j = false) : ap_ (X (lo_ Y F T j)) (Y (lo_ Y F T j)) (X (hi_ Y F T j)) (Y (hi_ Y F T j)) (X w) (Y w) (mx_ X F T k) (mx_ Y F T k) ∧ ap_ (X (F j)) (Y (F j)) (X (T j)) (Y (T j)) (X w) (Y w) (mx_ X F T k) (mx_ Y F T k) ∧ ap_ (X (lo_ Y F T j)) (Y (lo_ Y F T j)) (X (hi_ Y F T j)) (Y (hi_ Y F T j)) (mx_ X F T k) (mx_ Y F T k) (X w) (Y w) ∧ ap_ (X (F j)) (Y (F j)) (X (T j)) (Y (T j)) (mx_ X F T k) (mx_ Y F T k) (X w) (Y w) := by
  rw [mx_ot hw, mx_ot hw]
  have base : ∀ u v : Rat, 0 ≤ u → u ≤ 1 → 0 ≤ v → v ≤ 1 → (1 - v) * X (F j) + v * X (T j) = X w + u * (1 / 2) * dx_ X F T w k → (1 - v) * Y (F j) + v * Y (T j) = Y w + u * (1 / 2) * dy_ Y F T w k → False := fun u v u0 u1 v0 v1 h1 h2 => net_ap N hj hk hw hn u0 u1 v0 v1 h1 h2
  rw [dxy_] at base
  have A2 : ap_ (X (F j)) (Y (F j)) (X (T j)) (Y (T j)) (X w) (Y w) (X w + dx_ X F T w k * (1 / 2)) (Y w + dx_ Y F T w k * (1 / 2)) := by
    intro u v u0 u1 v0 v1 h1 h2
    exact base u v u0 u1 v0 v1 (by rw [h1]; grind) (by rw [h2]; grind)
  have A4 : ap_ (X (F j)) (Y (F j)) (X (T j)) (Y (T j)) (X w + dx_ X F T w k * (1 / 2)) (Y w + dx_ Y F T w k * (1 / 2)) (X w) (Y w) := by
    intro u v u0 u1 v0 v1 h1 h2
    exact base (1 - u) v (by grind) (by grind) v0 v1 (by rw [h1]; grind) (by rw [h2]; grind)
  have sw : ∀ {p1 p2 q1 q2 : Rat}, ap_ (X (F j)) (Y (F j)) (X (T j)) (Y (T j)) p1 p2 q1 q2 → ap_ (X (lo_ Y F T j)) (Y (lo_ Y F T j)) (X (hi_ Y F T j)) (Y (hi_ Y F T j)) p1 p2 q1 q2 := by
    intro p1 p2 q1 q2 h
    rcases lo_hi X Y F T j with ⟨k1, k2, -⟩ | ⟨k1, k2, -⟩ <;> rw [k1, k2]
    · exact h
    · intro u v u0 u1 v0 v1 h1 h2
      exact h u (1 - v) u0 u1 (by grind) (by grind) (by grind) (by grind)
  exact ⟨sw A2, A2, sw A4, A4⟩
theorem xor_lh (s : Nat → Bool) (Y : Nat → Rat) (F T : Nat → Nat) (j : Nat) : Bool.xor (s (F j)) (s (T j)) = Bool.xor (s (lo_ Y F T j)) (s (hi_ Y F T j)) := by
  rcases lo_hi Y Y F T j with ⟨k1, k2, -⟩ | ⟨k1, k2, -⟩ <;> rw [k1, k2]
  exact Bool.xor_comm _ _
theorem cr_neg_pos {x : Rat} : (x * (1 / 2) < 0 ↔ x < 0) ∧ (0 < x * (1 / 2) ↔ 0 < x) := by constructor <;> constructor <;> intro h <;> grind
theorem bool_x3 {a c d : Bool} (h : Bool.xor a (Bool.xor c d) = false) : a = Bool.xor c d := by cases a <;> cases c <;> cases d <;> first | rfl | cases h
/-- a piece that goes up from w: what is to the right of it -/
theorem net_up (N : Net_ n m X Y F T b) {w k : Nat} (hk : k < m) (hw : ic_ F T w k = true) (hd : 0 < dy_ Y F T w k) : mu_ m X Y F T b k = Bool.xor (cu_ m X Y F T b w) (xs_ m (fun j => b j && (ic_ F T w j && decide (0 < dy_ Y F T w j ∧ cr_ X Y F T w k j < 0)))) := by
  apply bool_x3
  unfold mu_ cu_
  rw [← xs_x, ← xs_x]
  rw [← xs_cut N.1 N.2.2.2.2.2 (fun v => decide ((Y w < Y v ∧ Y v ≤ mx_ Y F T k) ∧ tr_ (X w) (Y w) (mx_ X F T k) (mx_ Y F T k) (X v) (Y v) < 0))]
  apply xs_cg
  intro j hj
  cases hb : b j with
  | false => rfl
  | true =>
  simp only [Bool.true_and]
  have hm2 : mx_ Y F T k = Y w + dy_ Y F T w k * (1 / 2) := mx_ot hw Y
  have hm1 : mx_ X F T k = X w + dx_ X F T w k * (1 / 2) := mx_ot hw X
  rw [xor_lh (fun v => decide ((Y w < Y v ∧ Y v ≤ mx_ Y F T k) ∧ tr_ (X w) (Y w) (mx_ X F T k) (mx_ Y F T k) (X v) (Y v) < 0)) Y F T j]
  have hot : Y (ot_ F T w j) = Y w + dy_ Y F T w j := by unfold dy_; grind
  have hox : X (ot_ F T w j) = X w + dx_ X F T w j := by unfold dx_; grind
  have hwy : ¬ (Y w < Y w) := by grind
  cases hi : ic_ F T w j with
  | true =>
    obtain ⟨i1, i2, i3⟩ := ic_lh (Y := Y) hi X
    unfold up_j
    rcases gm_tri (dy_ Y F T w j) 0 with q | q | q
    · obtain ⟨e1, e2⟩ := i2 q
      have n1 : ¬ (mx_ Y F T k < Y w) := by grind
      have n2 : ¬ (Y w < Y (ot_ F T w j)) := by grind
      have n3 : ¬ (0 < dy_ Y F T w j) := by grind
      rw [e1, e2]
      simp only [n1, n2, n3, hwy, false_and, and_false, decide_false, Bool.and_false, Bool.not_true, Bool.false_and, Bool.xor_false]
    · obtain ⟨e1, e2⟩ := i3 q
      have n1 : ¬ (Y (lo_ Y F T j) ≤ mx_ Y F T k ∧ mx_ Y F T k < Y (hi_ Y F T j)) := by grind
      have n2 : ¬ (Y w < Y (lo_ Y F T j)) := by grind
      have n4 : ¬ (Y w < Y (hi_ Y F T j)) := by grind
      have n3 : ¬ (0 < dy_ Y F T w j) := by grind
      simp only [n1, n2, n3, n4, false_and, and_false, decide_false, Bool.and_false, Bool.not_true, Bool.false_and, Bool.xor_false]
    · obtain ⟨e1, e2⟩ := i1 q
      rw [e1, e2]
      have t1 : tr_ (X w) (Y w) (X (ot_ F T w j)) (Y (ot_ F T w j)) (mx_ X F T k) (mx_ Y F T k) = -(cr_ X Y F T w k j * (1 / 2)) := by unfold tr_ cr_; rw [hm1, hm2, hot, hox]; grind
      have t2 : tr_ (X w) (Y w) (mx_ X F T k) (mx_ Y F T k) (X (ot_ F T w j)) (Y (ot_ F T w j)) = cr_ X Y F T w k j * (1 / 2) := by unfold tr_ cr_; rw [hm1, hm2, hot, hox]; grind
      have c1 : (0 < -(cr_ X Y F T w k j * (1 / 2))) ↔ cr_ X Y F T w k j < 0 := by constructor <;> intro h <;> grind
      have c2 := (cr_neg_pos (x := cr_ X Y F T w k j)).1
      have n1 : Y w ≤ mx_ Y F T k := by grind
      have n2 : Y w < Y (ot_ F T w j) := by grind
      rw [t1, t2]
      by_cases hjk : j = k
      · subst hjk
        have z : cr_ X Y F T w j j = 0 := by unfold cr_; grind
        rw [z]
        simp
      · have z : (j == k) = false := by simp only [beq_eq_false_iff_ne, ne_eq]; exact hjk
        rw [z]
        by_cases g : Y (ot_ F T w j) ≤ mx_ Y F T k
        · have g2 : ¬ (mx_ Y F T k < Y (ot_ F T w j)) := by grind
          simp only [n1, n2, g, g2, c1, c2, q, hwy, true_and, false_and, and_false, decide_false, Bool.and_false, Bool.not_true, Bool.not_false, Bool.true_and, Bool.false_and, Bool.xor_false, Bool.false_xor]
        · have g2 : mx_ Y F T k < Y (ot_ F T w j) := by grind
          simp only [n1, n2, g, g2, c1, c2, q, hwy, true_and, false_and, and_false, decide_false, Bool.and_false, Bool.not_true, Bool.not_false, Bool.true_and, Bool.false_and, Bool.xor_false, Bool.false_xor, Bool.xor_self]
  | false =>
    have hjk : j ≠ k := by intro e; subst e; rw [hw] at hi; cases hi
    have z : (j == k) = false := by simp only [beq_eq_false_iff_ne, ne_eq]; exact hjk
    obtain ⟨A1, A2, -, -⟩ := net_ap2 N hj hk hw hi
    have hpq : Y w < mx_ Y F T k := by grind
    rw [z]
    simp only [Bool.not_false, Bool.true_and, Bool.false_and, Bool.xor_false]
    unfold up_j
    rcases gm_tri (Y (lo_ Y F T j)) (Y (hi_ Y F T j)) with g | g | g
    · rw [Bool.xor_comm]
      exact st_up A1 g hpq
    · have n1 : ¬ (Y (lo_ Y F T j) ≤ mx_ Y F T k ∧ mx_ Y F T k < Y (hi_ Y F T j)) := by grind
      have n2 : ¬ (Y (lo_ Y F T j) ≤ Y w ∧ Y w < Y (hi_ Y F T j)) := by grind
      simp only [n1, n2, false_and, decide_false, Bool.xor_false]
      by_cases c : Y w < Y (lo_ Y F T j) ∧ Y (lo_ Y F T j) ≤ mx_ Y F T k
      · have e := st_lv A1 g hpq (by grind) c.2
        have c2 : Y w < Y (hi_ Y F T j) ∧ Y (hi_ Y F T j) ≤ mx_ Y F T k := by grind
        simp only [c, c2, e, true_and, and_self, Bool.xor_self]
      · have c2 : ¬ (Y w < Y (hi_ Y F T j) ∧ Y (hi_ Y F T j) ≤ mx_ Y F T k) := by grind
        simp only [c, c2, false_and, decide_false, Bool.xor_false]
    · exfalso
      rcases lo_hi X Y F T j with ⟨k1, k2, k3⟩ | ⟨k1, k2, k3⟩ <;> rw [k1, k2] at g <;> grind
end NET
