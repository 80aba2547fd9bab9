section NER
variable {n m : Nat} {X Y : Nat → Rat} {F T : Nat → Nat} {b : Nat → Bool}
/-- two pieces do not leave a place in one direction -/
theorem net_ov (N : Net_ n m X Y F T b) {w j k : Nat} (hj : j < m) (hk : k < m) (ij : ic_ F T w j = true) (ik : ic_ F T w k = true) (hne : j ≠ k) {s t : Rat} (hs : 0 < s) (ht : 0 < t) (h1 : s * dx_ X F T w k = t * dx_ X F T w j) (h2 : s * dy_ Y F T w k = t * dy_ Y F T w j) : False := by
  obtain ⟨N1, N2, N3, N4, N5, N6⟩ := N
  have hst : 0 < s + t := by grind
  have e := Rat.inv_mul_cancel (s + t) (by grind)
  have i := Rat.inv_pos.mpr hst
  have a0 := Rat.mul_pos hs i
  have c0 := Rat.mul_pos ht i
  have pt : ∀ (q : Nat) (hq : ic_ F T w q = true) (α : Rat), 0 < α → α < 1 → ∃ u : Rat, 0 ≤ u ∧ u ≤ 1 ∧ ((1 - u) * X (F q) + u * X (T q) = X w + α * dx_ X F T w q) ∧ ((1 - u) * Y (F q) + u * Y (T q) = Y w + α * dy_ Y F T w q) := by
    intro q hq α α0 α1
    unfold dx_ dy_
    rcases ic_ot hq with ⟨k1, k2⟩ | ⟨k1, k2⟩
    · exact ⟨α, by grind, by grind, by rw [← k2, k1]; grind, by rw [← k2, k1]; grind⟩
    · exact ⟨1 - α, by grind, by grind, by rw [← k2, k1]; grind, by rw [← k2, k1]; grind⟩
  have hi : ∀ r : Rat, 0 < r → r * (s + t)⁻¹ * (s + t) = r := by intro r _; grind
  have lt1 : ∀ r q : Rat, 0 < r → 0 < q → r + q = s + t → r * (s + t)⁻¹ < 1 := by
    intro r q hr hq hrq
    have := Rat.mul_pos hq i
    have : r * (s + t)⁻¹ + q * (s + t)⁻¹ = 1 := by rw [← Rat.add_mul, hrq, Rat.mul_comm]; exact e
    grind
  obtain ⟨u, u0, u1, ux, uy⟩ := pt k ik (s * (s + t)⁻¹) a0 (lt1 s t hs ht rfl)
  obtain ⟨v, v0, v1, vx, vy⟩ := pt j ij (t * (s + t)⁻¹) c0 (lt1 t s ht hs (by grind))
  have ex : s * (s + t)⁻¹ * dx_ X F T w k = t * (s + t)⁻¹ * dx_ X F T w j := by
    have : (s + t)⁻¹ * (s * dx_ X F T w k) = (s + t)⁻¹ * (t * dx_ X F T w j) := by rw [h1]
    grind
  have ey : s * (s + t)⁻¹ * dy_ Y F T w k = t * (s + t)⁻¹ * dy_ Y F T w j := by
    have : (s + t)⁻¹ * (s * dy_ Y F T w k) = (s + t)⁻¹ * (t * dy_ Y F T w j) := by rw [h2]
    grind
  obtain ⟨z, z1, z2, zx, zy⟩ := N3 k j hk hj (fun q => hne q.symm) u v u0 u1 v0 v1 (by rw [ux, vx, ex]) (by rw [uy, vy, ey])
  have hd := N2 k hk
  have al := lt1 s t hs ht rfl
  have zz : z = w ∨ z = ot_ F T w k := by
    rcases ic_ot ik with ⟨k1, k2⟩ | ⟨k1, k2⟩ <;> rw [k1, k2] at z1 <;> rcases z1 with q | q
    · exact Or.inl q
    · exact Or.inr q
    · exact Or.inr q
    · exact Or.inl q
  have hd2 : dx_ X F T w k ≠ 0 ∨ dy_ Y F T w k ≠ 0 := by
    unfold dx_ dy_
    rcases ic_ot ik with ⟨k1, k2⟩ | ⟨k1, k2⟩ <;> rw [k1, k2] at hd <;> grind
  rw [ux] at zx
  rw [uy] at zy
  generalize s * (s + t)⁻¹ = α at *
  rcases zz with q | q
  · subst q
    have p1 : α * dx_ X F T z k = 0 := by grind
    have p2 : α * dy_ Y F T z k = 0 := by grind
    rcases Rat.mul_eq_zero.mp p1 with r | r
    · grind
    · rcases Rat.mul_eq_zero.mp p2 with r2 | r2 <;> grind
  · subst q
    have p1 : (1 - α) * dx_ X F T w k = 0 := by have : dx_ X F T w k = X (ot_ F T w k) - X w := rfl; grind
    have p2 : (1 - α) * dy_ Y F T w k = 0 := by have : dy_ Y F T w k = Y (ot_ F T w k) - Y w := rfl; grind
    rcases Rat.mul_eq_zero.mp p1 with r | r
    · grind
    · rcases Rat.mul_eq_zero.mp p2 with r2 | r2 <;> grind
/-- first half of the round: to the left, or upwards -/
def hr_ (X Y : Nat → Rat) (F T : Nat → Nat) (w k : Nat) : Bool := decide (0 < dy_ Y F T w k ∨ (dy_ Y F T w k = 0 ∧ dx_ X F T w k < 0))
def af_ (X Y : Nat → Rat) (F T : Nat → Nat) (w k j : Nat) : Bool := (hr_ X Y F T w k && !hr_ X Y F T w j) || ((hr_ X Y F T w k == hr_ X Y F T w j) && decide (cr_ X Y F T w k j < 0))
theorem net_nz (N : Net_ n m X Y F T b) {w k : Nat} (hk : k < m) (ik : ic_ F T w k = true) : dx_ X F T w k ≠ 0 ∨ dy_ Y F T w k ≠ 0 := by
  have hd := N.2.1 k hk
  unfold dx_ dy_
  rcases ic_ot ik with ⟨k1, k2⟩ | ⟨k1, k2⟩ <;> rw [k1, k2] at hd <;> grind
theorem hr_t {w k : Nat} (h : hr_ X Y F T w k = true) : 0 < dy_ Y F T w k ∨ (dy_ Y F T w k = 0 ∧ dx_ X F T w k < 0) := by unfold hr_ at h; exact of_decide_eq_true h
theorem hr_f {w k : Nat} (h : hr_ X Y F T w k = false) (hz : dx_ X F T w k ≠ 0 ∨ dy_ Y F T w k ≠ 0) : dy_ Y F T w k < 0 ∨ (dy_ Y F T w k = 0 ∧ 0 < dx_ X F T w k) := by
  unfold hr_ at h
  have := of_decide_eq_false h
  grind
theorem mul_pn {x y : Rat} (hx : 0 < x) (hy : y < 0) : x * y < 0 := by have := Rat.mul_pos hx (show 0 < -y by grind); grind
theorem mul_np {x y : Rat} (hx : x < 0) (hy : 0 < y) : x * y < 0 := by have := Rat.mul_pos (show 0 < -x by grind) hy; grind
theorem mul_nn {x y : Rat} (hx : x < 0) (hy : y < 0) : 0 < x * y := by have := Rat.mul_pos (show 0 < -x by grind) (show 0 < -y by grind); grind
/-- within a half plane right turns add up -/
theorem tr_half {a1 a2 b1 b2 c1 c2 : Rat} (ha : 0 < a2 ∨ (a2 = 0 ∧ a1 < 0)) (hb : 0 < b2 ∨ (b2 = 0 ∧ b1 < 0)) (hc : 0 < c2 ∨ (c2 = 0 ∧ c1 < 0)) (h1 : a1 * b2 - a2 * b1 < 0) (h2 : b1 * c2 - b2 * c1 < 0) : a1 * c2 - a2 * c1 < 0 := by
  rcases hb with hb | ⟨hb, hb1⟩
  · have id : (a1 * c2 - a2 * c1) * b2 = (a1 * b2 - a2 * b1) * c2 + (b1 * c2 - b2 * c1) * a2 := by grind
    have t1 : (a1 * b2 - a2 * b1) * c2 ≤ 0 := by
      rcases hc with h | ⟨h, -⟩
      · exact Rat.le_of_lt (mul_np h1 h)
      · rw [h]; grind
    have t2 : (b1 * c2 - b2 * c1) * a2 ≤ 0 := by
      rcases ha with h | ⟨h, -⟩
      · exact Rat.le_of_lt (mul_np h2 h)
      · rw [h]; grind
    have t3 : (a1 * b2 - a2 * b1) * c2 + (b1 * c2 - b2 * c1) * a2 < 0 := by
      rcases hc with h | ⟨h, h'⟩
      · have := mul_np h1 h; grind
      · rcases ha with g | ⟨g, -⟩
        · have := mul_np h2 g; grind
        · exfalso
          have := mul_pn hb h'
          rw [h] at h2; grind
    rcases gm_tri (a1 * c2 - a2 * c1) 0 with q | q | q
    · exact q
    · rw [q] at id; grind
    · have := Rat.mul_pos q hb; grind
  · exfalso
    rw [hb] at h1
    rcases ha with h | ⟨h, -⟩
    · have := mul_pn h hb1; grind
    · rw [h] at h1; grind
theorem cr_as (X Y : Nat → Rat) (F T : Nat → Nat) (w j k : Nat) : cr_ X Y F T w j k = -cr_ X Y F T w k j := by unfold cr_; grind
/-- in one half plane no two pieces lie on one line -/
theorem cr_nz (N : Net_ n m X Y F T b) {w j k : Nat} (hj : j < m) (hk : k < m) (ij : ic_ F T w j = true) (ik : ic_ F T w k = true) (hne : j ≠ k) (hh : hr_ X Y F T w k = hr_ X Y F T w j) : cr_ X Y F T w k j ≠ 0 := by
  intro hz
  unfold cr_ at hz
  have zj := net_nz N hj ij
  have zk := net_nz N hk ik
  cases q : hr_ X Y F T w k with
  | true =>
    rw [q] at hh
    rcases hr_t q with h | ⟨h, h'⟩ <;> rcases hr_t hh.symm with g | ⟨g, g'⟩
    · exact net_ov N hj hk ij ik hne g h (by grind) (by grind)
    · rw [g] at hz; have := mul_pn h g'; grind
    · rw [h] at hz; have := mul_np h' g; grind
    · exact net_ov N hj hk ij ik hne (s := -dx_ X F T w j) (t := -dx_ X F T w k) (by grind) (by grind) (by grind) (by rw [h, g]; grind)
  | false =>
    rw [q] at hh
    rcases hr_f q zk with h | ⟨h, h'⟩ <;> rcases hr_f hh.symm zj with g | ⟨g, g'⟩
    · exact net_ov N hj hk ij ik hne (s := -dy_ Y F T w j) (t := -dy_ Y F T w k) (by grind) (by grind) (by grind) (by grind)
    · rw [g] at hz; have := mul_np h g'; grind
    · rw [h] at hz; have := mul_pn h' g; grind
    · exact net_ov N hj hk ij ik hne g' h' (by grind) (by rw [h, g]; grind)
theorem net_so (N : Net_ n m X Y F T b) (w : Nat) : so_ m (ic_ F T w) (af_ X Y F T w) := by
  refine ⟨?_, ?_, ?_⟩
  · intro x hx ix
    have : cr_ X Y F T w x x = 0 := by unfold cr_; grind
    unfold af_
    rw [this]
    cases hr_ X Y F T w x <;> simp
  · intro x y z hx hy hz ix iy iz h1 h2
    have nx := net_nz N hx ix
    have ny := net_nz N hy iy
    have nz := net_nz N hz iz
    unfold af_ at h1 h2 ⊢
    cases qx : hr_ X Y F T w x <;> cases qy : hr_ X Y F T w y <;> cases qz : hr_ X Y F T w z <;> rw [qx, qy] at h1 <;> rw [qy, qz] at h2 <;> simp at h1 h2 ⊢
    · have a := hr_f qx nx
      have c := hr_f qy ny
      have d := hr_f qz nz
      have := tr_half (a1 := -dx_ X F T w x) (a2 := -dy_ Y F T w x) (b1 := -dx_ X F T w y) (b2 := -dy_ Y F T w y) (c1 := -dx_ X F T w z) (c2 := -dy_ Y F T w z) (by grind) (by grind) (by grind) (by unfold cr_ at h1; grind) (by unfold cr_ at h2; grind)
      unfold cr_; grind
    · exact tr_half (hr_t qx) (hr_t qy) (hr_t qz) h1 h2
  · intro x y hx hy ix iy hne
    unfold af_
    cases qx : hr_ X Y F T w x <;> cases qy : hr_ X Y F T w y <;> simp
    · have := cr_nz N hy hx iy ix (fun q => hne q.symm) (by rw [qx, qy])
      have e := cr_as X Y F T w y x
      grind
    · have := cr_nz N hy hx iy ix (fun q => hne q.symm) (by rw [qx, qy])
      have e := cr_as X Y F T w y x
      grind
/-- what is to the right of a piece, seen from w (and to the left) -/
def rw_ (m : Nat) (X Y : Nat → Rat) (F T : Nat → Nat) (b : Nat → Bool) (w k : Nat) : Bool := if 0 < dy_ Y F T w k then mu_ m X Y F T b k else if dy_ Y F T w k < 0 then Bool.xor (mu_ m X Y F T b k) (b k) else if 0 < dx_ X F T w k then md_ m X Y F T b k else mu_ m X Y F T b k
def lw_ (m : Nat) (X Y : Nat → Rat) (F T : Nat → Nat) (b : Nat → Bool) (w k : Nat) : Bool := if 0 < dy_ Y F T w k then Bool.xor (mu_ m X Y F T b k) (b k) else if dy_ Y F T w k < 0 then mu_ m X Y F T b k else if 0 < dx_ X F T w k then mu_ m X Y F T b k else md_ m X Y F T b k
def kk_ (m : Nat) (X Y : Nat → Rat) (F T : Nat → Nat) (b : Nat → Bool) (w : Nat) : Bool := Bool.xor (cd_ m X Y F T b w) (xs_ m (fun j => b j && (ic_ F T w j && decide (dy_ Y F T w j < 0))))
/-- the parts of a sum by kinds of direction -/
theorem xs_pt {p q r s : Nat → Bool} {w : Nat} (h : ∀ j, j < m → ic_ F T w j = true → p j = Bool.xor (q j) (Bool.xor (r j) (s j))) : xs_ m (fun j => b j && (ic_ F T w j && p j)) = Bool.xor (xs_ m (fun j => b j && (ic_ F T w j && q j))) (Bool.xor (xs_ m (fun j => b j && (ic_ F T w j && r j))) (xs_ m (fun j => b j && (ic_ F T w j && s j)))) := by
  rw [← xs_x, ← xs_x]
  apply xs_cg
  intro j hj
  cases b j with
  | false => rfl
  | true =>
  cases hi : ic_ F T w j with
  | false => rfl
  | true => simp only [Bool.true_and]; exact h j hj hi
theorem xs_eq {p q : Nat → Bool} {w : Nat} (h : ∀ j, j < m → ic_ F T w j = true → p j = q j) : xs_ m (fun j => b j && (ic_ F T w j && p j)) = xs_ m (fun j => b j && (ic_ F T w j && q j)) := by
  apply xs_cg
  intro j hj
  cases b j with
  | false => rfl
  | true =>
  cases hi : ic_ F T w j with
  | false => rfl
  | true => simp only [Bool.true_and]; exact h j hj hi
theorem xs_ff {w : Nat} : xs_ m (fun j => b j && (ic_ F T w j && false)) = false := xs_no (fun j _ => by cases b j <;> cases ic_ F T w j <;> rfl)
theorem xs_k {w k : Nat} (hk : k < m) (ik : ic_ F T w k = true) : xs_ m (fun j => b j && (ic_ F T w j && (j == k))) = b k := by
  rw [xs_one hk (fun j hj hne => by
    have : (j == k) = false := by simp only [beq_eq_false_iff_ne, ne_eq]; exact hne
    rw [this, Bool.and_false, Bool.and_false])]
  rw [ik]; simp
/-- each place's incident pieces are an even number -/
theorem net_ev (N : Net_ n m X Y F T b) {w : Nat} (hw : w < n) : xs_ m (fun j => b j && ic_ F T w j) = false := by
  rw [← N.2.2.2.2.2 w hw]
  apply xs_cg
  intro j hj
  have hd := N.2.1 j hj
  unfold ic_
  by_cases q : F j = w
  · by_cases r : T j = w
    · rw [q, r] at hd; grind
    · have z : (T j == w) = false := by simp only [beq_eq_false_iff_ne, ne_eq]; exact r
      have y : (F j == w) = true := by simp only [beq_iff_eq]; exact q
      rw [z, y]; rfl
  · have z : (F j == w) = false := by simp only [beq_eq_false_iff_ne, ne_eq]; exact q
    rw [z]
    cases (T j == w) <;> rfl
theorem net_rt (N : Net_ n m X Y F T b) {w k : Nat} (hw : w < n) (hk : k < m) (ik : ic_ F T w k = true) : rw_ m X Y F T b w k = Bool.xor (kk_ m X Y F T b w) (tt_ m (ic_ F T w) (af_ X Y F T w) b k) ∧ lw_ m X Y F T b w k = Bool.xor (kk_ m X Y F T b w) (Bool.xor (tt_ m (ic_ F T w) (af_ X Y F T w) b k) (b k)) := by
  have ud := net_ud N hw
  have ev := net_ev N hw
  have nzk := net_nz N hk ik
  unfold kk_ tt_
  generalize hCU : cu_ m X Y F T b w = CU at ud
  generalize hCD : cd_ m X Y F T b w = CD at ud
  generalize hE : xs_ m (fun j => b j && (ic_ F T w j && decide (dy_ Y F T w j = 0 ∧ 0 < dx_ X F T w j))) = E at ud
  generalize hD : xs_ m (fun j => b j && (ic_ F T w j && decide (dy_ Y F T w j < 0))) = D
  rcases gm_tri (dy_ Y F T w k) 0 with q | q | q
  · -- down
    have h1 := net_dn N hk ik q
    have nq : ¬ (0 < dy_ Y F T w k) := by grind
    have r1 : rw_ m X Y F T b w k = Bool.xor (mu_ m X Y F T b k) (b k) := by unfold rw_; rw [if_neg nq, if_pos q]
    have r2 : lw_ m X Y F T b w k = mu_ m X Y F T b k := by unfold lw_; rw [if_neg nq, if_pos q]
    have hk0 : hr_ X Y F T w k = false := by unfold hr_; exact decide_eq_false (by grind)
    have e1 : xs_ m (fun j => b j && (ic_ F T w j && af_ X Y F T w k j)) = xs_ m (fun j => b j && (ic_ F T w j && decide (dy_ Y F T w j < 0 ∧ cr_ X Y F T w k j < 0))) := by
      apply xs_eq
      intro j hj ij
      unfold af_
      rw [hk0]
      cases g : hr_ X Y F T w j with
      | true =>
        rcases hr_t g with p | ⟨p, -⟩
        · have : ¬ (dy_ Y F T w j < 0) := by grind
          simp [this]
        · have : ¬ (dy_ Y F T w j < 0) := by grind
          simp [this]
      | false =>
        rcases hr_f g (net_nz N hj ij) with p | ⟨p, p'⟩
        · simp [p]
        · have c : ¬ (cr_ X Y F T w k j < 0) := by unfold cr_; rw [p]; have := mul_np q p'; grind
          simp [c]
    have e2 := xs_pt (m := m) (b := b) (F := F) (T := T) (w := w) (p := fun j => decide (dy_ Y F T w j < 0)) (q := fun j => decide (dy_ Y F T w j < 0 ∧ 0 < cr_ X Y F T w k j)) (r := fun j => decide (dy_ Y F T w j < 0 ∧ cr_ X Y F T w k j < 0)) (s := fun j => j == k) (by
      intro j hj ij
      by_cases hjk : j = k
      · subst hjk
        have c : cr_ X Y F T w j j = 0 := by unfold cr_; grind
        simp [q, c]
      · have z : (j == k) = false := by simp only [beq_eq_false_iff_ne, ne_eq]; exact hjk
        rw [z]
        by_cases g : dy_ Y F T w j < 0
        · have hj0 : hr_ X Y F T w j = false := by unfold hr_; exact decide_eq_false (by grind)
          have c := cr_nz N hj hk ij ik hjk (by rw [hk0, hj0])
          rcases gm_ne c with d | d
          · have d2 : ¬ (0 < cr_ X Y F T w k j) := by grind
            simp [g, d, d2]
          · have d2 : ¬ (cr_ X Y F T w k j < 0) := by grind
            simp [g, d, d2]
        · simp [g])
    rw [xs_k hk ik, hD] at e2
    rw [hCD] at h1
    rw [r1, r2, h1, e1]
    generalize xs_ m (fun j => b j && (ic_ F T w j && decide (dy_ Y F T w j < 0 ∧ 0 < cr_ X Y F T w k j))) = A at *
    generalize xs_ m (fun j => b j && (ic_ F T w j && decide (dy_ Y F T w j < 0 ∧ cr_ X Y F T w k j < 0))) = B at *
    rw [e2]
    cases A <;> cases B <;> cases CD <;> cases b k <;> decide
  · -- level
    have h1 := net_lv N hk ik q
    have nq : ¬ (0 < dy_ Y F T w k) := by grind
    have nq2 : ¬ (dy_ Y F T w k < 0) := by grind
    rw [hCU, hCD] at h1
    by_cases g : 0 < dx_ X F T w k
    · have ng : ¬ (dx_ X F T w k < 0) := by grind
      have r1 : rw_ m X Y F T b w k = md_ m X Y F T b k := by unfold rw_; rw [if_neg nq, if_neg nq2, if_pos g]
      have r2 : lw_ m X Y F T b w k = mu_ m X Y F T b k := by unfold lw_; rw [if_neg nq, if_neg nq2, if_pos g]
      have hk0 : hr_ X Y F T w k = false := by unfold hr_; exact decide_eq_false (by grind)
      have z1 : xs_ m (fun j => b j && (ic_ F T w j && decide (0 < dy_ Y F T w j ∧ dx_ X F T w k < 0))) = false := by
        simp only [ng, and_false, decide_false]; exact xs_ff
      have z2 : xs_ m (fun j => b j && (ic_ F T w j && decide (dy_ Y F T w j < 0 ∧ dx_ X F T w k < 0))) = false := by
        simp only [ng, and_false, decide_false]; exact xs_ff
      rw [z1, z2] at h1
      have e1 : xs_ m (fun j => b j && (ic_ F T w j && af_ X Y F T w k j)) = D := by
        rw [← hD]
        apply xs_eq
        intro j hj ij
        unfold af_
        rw [hk0]
        cases p : hr_ X Y F T w j with
        | true =>
          rcases hr_t p with r | ⟨r, -⟩
          · have : ¬ (dy_ Y F T w j < 0) := by grind
            simp [this]
          · have : ¬ (dy_ Y F T w j < 0) := by grind
            simp [this]
        | false =>
          rcases hr_f p (net_nz N hj ij) with r | ⟨r, r'⟩
          · have c : cr_ X Y F T w k j < 0 := by unfold cr_; rw [q]; have := mul_pn g r; grind
            simp [r, c]
          · have c : ¬ (cr_ X Y F T w k j < 0) := by unfold cr_; rw [q, r]; grind
            have c2 : ¬ (dy_ Y F T w j < 0) := by grind
            simp [c, c2]
      have e2 : E = b k := by
        rw [← hE, ← xs_k (b := b) (F := F) (T := T) hk ik]
        apply xs_eq
        intro j hj ij
        by_cases hjk : j = k
        · subst hjk; simp [q, g]
        · have z : (j == k) = false := by simp only [beq_eq_false_iff_ne, ne_eq]; exact hjk
          rw [z]
          apply decide_eq_false
          rintro ⟨p1, p2⟩
          exact net_ov N hj hk ij ik hjk p2 g (by grind) (by rw [p1, q]; grind)
      rw [r1, r2, h1.1, h1.2, e1]
      rw [e2] at ud
      revert ud
      cases CU <;> cases CD <;> cases D <;> cases b k <;> decide
    · have ng : dx_ X F T w k < 0 := by grind
      have r1 : rw_ m X Y F T b w k = mu_ m X Y F T b k := by unfold rw_; rw [if_neg nq, if_neg nq2, if_neg g]
      have r2 : lw_ m X Y F T b w k = md_ m X Y F T b k := by unfold lw_; rw [if_neg nq, if_neg nq2, if_neg g]
      have hk0 : hr_ X Y F T w k = true := by unfold hr_; exact decide_eq_true (by grind)
      have z2 : xs_ m (fun j => b j && (ic_ F T w j && decide (dy_ Y F T w j < 0 ∧ dx_ X F T w k < 0))) = D := by
        rw [← hD]; simp only [ng, and_true]
      have z1 : xs_ m (fun j => b j && (ic_ F T w j && decide (0 < dy_ Y F T w j ∧ dx_ X F T w k < 0))) = xs_ m (fun j => b j && (ic_ F T w j && decide (0 < dy_ Y F T w j))) := by
        simp only [ng, and_true]
      rw [z1, z2] at h1
      generalize hU : xs_ m (fun j => b j && (ic_ F T w j && decide (0 < dy_ Y F T w j))) = U at h1
      have e1 : xs_ m (fun j => b j && (ic_ F T w j && af_ X Y F T w k j)) = Bool.xor U (Bool.xor E D) := by
        rw [← hU, ← hE, ← hD]
        apply xs_pt
        intro j hj ij
        unfold af_
        rw [hk0]
        cases p : hr_ X Y F T w j with
        | true =>
          rcases hr_t p with r | ⟨r, r'⟩
          · have c : cr_ X Y F T w k j < 0 := by unfold cr_; rw [q]; have := mul_np ng r; grind
            have c2 : ¬ (dy_ Y F T w j < 0) := by grind
            have c3 : ¬ (dy_ Y F T w j = 0) := by grind
            simp [r, c, c2, c3]
          · have c : ¬ (cr_ X Y F T w k j < 0) := by unfold cr_; rw [q, r]; grind
            have c2 : ¬ (dy_ Y F T w j < 0) := by grind
            have c3 : ¬ (0 < dy_ Y F T w j) := by grind
            have c4 : ¬ (0 < dx_ X F T w j) := by grind
            simp [c, c2, c3, c4]
        | false =>
          rcases hr_f p (net_nz N hj ij) with r | ⟨r, r'⟩
          · have c2 : ¬ (0 < dy_ Y F T w j) := by grind
            have c3 : ¬ (dy_ Y F T w j = 0) := by grind
            simp [r, c2, c3]
          · have c2 : ¬ (0 < dy_ Y F T w j) := by grind
            have c3 : ¬ (dy_ Y F T w j < 0) := by grind
            simp [r, r', c2, c3]
      have e3 : xs_ m (fun j => b j && ic_ F T w j) = Bool.xor (Bool.xor U (Bool.xor E D)) (b k) := by
        have : xs_ m (fun j => b j && ic_ F T w j) = xs_ m (fun j => b j && (ic_ F T w j && true)) := by simp only [Bool.and_true]
        rw [this, ← e1, ← xs_k (b := b) (F := F) (T := T) hk ik, ← xs_x]
        apply xs_cg
        intro j hj
        cases b j with
        | false => rfl
        | true =>
        cases ij : ic_ F T w j with
        | false => rfl
        | true =>
        by_cases hjk : j = k
        · subst hjk
          rw [(net_so N w).1 j hj ij]; simp
        · have z : (j == k) = false := by simp only [beq_eq_false_iff_ne, ne_eq]; exact hjk
          rw [z]
          rcases (net_so N w).2.2 k j hk hj ik ij (fun t => hjk t.symm) with s | s
          · rw [s]; rfl
          · exfalso
            unfold af_ at s
            rw [hk0] at s
            cases p : hr_ X Y F T w j with
            | true =>
              rw [p] at s
              simp at s
              unfold cr_ at s
              rw [q] at s
              rcases hr_t p with r | ⟨r, r'⟩
              · have := mul_np ng r; grind
              · rw [r] at s; grind
            | false => rw [p] at s; simp at s
      rw [ev] at e3
      rw [r1, r2, h1.1, h1.2, e1]
      revert ud e3
      cases CU <;> cases CD <;> cases D <;> cases U <;> cases E <;> cases b k <;> decide
  · -- up
    have h1 := net_up N hk ik q
    have r1 : rw_ m X Y F T b w k = mu_ m X Y F T b k := by unfold rw_; rw [if_pos q]
    have r2 : lw_ m X Y F T b w k = Bool.xor (mu_ m X Y F T b k) (b k) := by unfold lw_; rw [if_pos q]
    have hk0 : hr_ X Y F T w k = true := by unfold hr_; exact decide_eq_true (by grind)
    rw [hCU] at h1
    generalize hU : xs_ m (fun j => b j && (ic_ F T w j && decide (0 < dy_ Y F T w j ∧ cr_ X Y F T w k j < 0))) = U at h1
    have e1 : xs_ m (fun j => b j && (ic_ F T w j && af_ X Y F T w k j)) = Bool.xor U (Bool.xor E D) := by
      rw [← hU, ← hE, ← hD]
      apply xs_pt
      intro j hj ij
      unfold af_
      rw [hk0]
      cases p : hr_ X Y F T w j with
      | true =>
        rcases hr_t p with r | ⟨r, r'⟩
        · have c2 : ¬ (dy_ Y F T w j < 0) := by grind
          have c3 : ¬ (dy_ Y F T w j = 0) := by grind
          simp [r, c2, c3]
        · have c : ¬ (cr_ X Y F T w k j < 0) := by unfold cr_; rw [r]; have := mul_pn q r'; grind
          have c2 : ¬ (dy_ Y F T w j < 0) := by grind
          have c3 : ¬ (0 < dy_ Y F T w j) := by grind
          have c4 : ¬ (0 < dx_ X F T w j) := by grind
          simp [c, c2, c3, c4]
      | false =>
        rcases hr_f p (net_nz N hj ij) with r | ⟨r, r'⟩
        · have c2 : ¬ (0 < dy_ Y F T w j) := by grind
          have c3 : ¬ (dy_ Y F T w j = 0) := by grind
          simp [r, c2, c3]
        · have c2 : ¬ (0 < dy_ Y F T w j) := by grind
          have c3 : ¬ (dy_ Y F T w j < 0) := by grind
          simp [r, r', c2, c3]
    rw [r1, r2, h1, e1]
    revert ud
    cases CU <;> cases CD <;> cases D <;> cases U <;> cases E <;> cases b k <;> decide
end NER
