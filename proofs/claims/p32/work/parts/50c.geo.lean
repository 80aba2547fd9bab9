section XSU
/-- odd or even: how many of the first m -/
def xs_ : Nat → (Nat → Bool) → Bool
  | 0, _ => false
  | m + 1, f => Bool.xor (xs_ m f) (f m)
theorem xs_cg {f g : Nat → Bool} : ∀ {m : Nat}, (∀ k, k < m → f k = g k) → xs_ m f = xs_ m g
  | 0, _ => rfl
  | m + 1, h => by unfold xs_; rw [xs_cg (fun k hk => h k (by omega)), h m (by omega)]
theorem xs_no {f : Nat → Bool} : ∀ {m : Nat}, (∀ k, k < m → f k = false) → xs_ m f = false
  | 0, _ => rfl
  | m + 1, h => by unfold xs_; rw [xs_no (fun k hk => h k (by omega)), h m (by omega)]; rfl
theorem xs_x (f g : Nat → Bool) : ∀ (m : Nat), xs_ m (fun k => Bool.xor (f k) (g k)) = Bool.xor (xs_ m f) (xs_ m g)
  | 0 => rfl
  | m + 1 => by
    show Bool.xor (xs_ m (fun k => Bool.xor (f k) (g k))) (Bool.xor (f m) (g m)) = Bool.xor (Bool.xor (xs_ m f) (f m)) (Bool.xor (xs_ m g) (g m))
    rw [xs_x f g m]
    cases xs_ m f <;> cases xs_ m g <;> cases f m <;> cases g m <;> rfl
theorem xs_one {f : Nat → Bool} {k : Nat} : ∀ {m : Nat}, k < m → (∀ j, j < m → j ≠ k → f j = false) → xs_ m f = f k
  | 0, h, _ => absurd h (by omega)
  | m + 1, h, hf => by
    unfold xs_
    by_cases q : k = m
    · subst q
      rw [xs_no (fun j hj => hf j (by omega) (by omega))]
      cases f k <;> rfl
    · rw [xs_one (k := k) (by omega) (fun j hj hne => hf j (by omega) hne), hf m (by omega) (fun e => q e.symm)]
      cases f k <;> rfl
theorem xs_and (c : Bool) (f : Nat → Bool) : ∀ (m : Nat), xs_ m (fun k => c && f k) = (c && xs_ m f)
  | 0 => by cases c <;> rfl
  | m + 1 => by
    show Bool.xor (xs_ m (fun k => c && f k)) (c && f m) = (c && Bool.xor (xs_ m f) (f m))
    rw [xs_and c f m]
    cases c <;> cases xs_ m f <;> cases f m <;> rfl
theorem xs_swap (f : Nat → Nat → Bool) (n : Nat) : ∀ (m : Nat), xs_ m (fun k => xs_ n (fun i => f k i)) = xs_ n (fun i => xs_ m (fun k => f k i))
  | 0 => by
    exact (xs_no (fun _ _ => rfl)).symm
  | m + 1 => by
    show Bool.xor (xs_ m (fun k => xs_ n (fun i => f k i))) (xs_ n (fun i => f m i)) = _
    rw [xs_swap f n m, ← xs_x]
    rfl
/-- all places' degrees are even: any set of places is left as often as it is entered -/
theorem xs_cut {n m : Nat} {F T : Nat → Nat} {b : Nat → Bool} (hF : ∀ k, k < m → F k < n ∧ T k < n) (hd : ∀ w, w < n → xs_ m (fun k => b k && Bool.xor (F k == w) (T k == w)) = false) (s : Nat → Bool) : xs_ m (fun k => b k && Bool.xor (s (F k)) (s (T k))) = false := by
  have e : xs_ m (fun k => b k && Bool.xor (s (F k)) (s (T k))) = xs_ m (fun k => xs_ n (fun w => s w && (b k && Bool.xor (F k == w) (T k == w)))) := by
    apply xs_cg
    intro k hk
    obtain ⟨h1, h2⟩ := hF k hk
    have e1 : xs_ n (fun w => s w && (F k == w)) = s (F k) := by
      rw [xs_one h1 (fun j hj hne => by
        have : (F k == j) = false := by simp only [beq_eq_false_iff_ne, ne_eq]; exact fun e => hne e.symm
        rw [this, Bool.and_false])]
      simp
    have e2 : xs_ n (fun w => s w && (T k == w)) = s (T k) := by
      rw [xs_one h2 (fun j hj hne => by
        have : (T k == j) = false := by simp only [beq_eq_false_iff_ne, ne_eq]; exact fun e => hne e.symm
        rw [this, Bool.and_false])]
      simp
    have e3 : xs_ n (fun w => s w && (b k && Bool.xor (F k == w) (T k == w))) = xs_ n (fun w => b k && Bool.xor (s w && (F k == w)) (s w && (T k == w))) := by
      apply xs_cg
      intro w _
      cases s w <;> cases b k <;> cases (F k == w) <;> cases (T k == w) <;> rfl
    rw [e3, xs_and, xs_x, e1, e2]
  rw [e, xs_swap, xs_no]
  intro w hw
  rw [xs_and, hd w hw, Bool.and_false]
end XSU
section GET
def tr_ (a1 a2 b1 b2 p1 p2 : Rat) : Rat := (b1 - a1) * (p2 - a2) - (b2 - a2) * (p1 - a1)
def dl_ (a1 a2 b1 b2 p1 p2 q1 q2 y : Rat) : Rat := (a1 * (b2 - a2) + (y - a2) * (b1 - a1)) * (q2 - p2) - (p1 * (q2 - p2) + (y - p2) * (q1 - p1)) * (b2 - a2)
/-- two ways have no place in common -/
def ap_ (a1 a2 b1 b2 p1 p2 q1 q2 : Rat) : Prop := ∀ u v : Rat, 0 ≤ u → u ≤ 1 → 0 ≤ v → v ≤ 1 → (1 - v) * a1 + v * b1 = (1 - u) * p1 + u * q1 → (1 - v) * a2 + v * b2 = (1 - u) * p2 + u * q2 → False
theorem dl_no {a1 a2 b1 b2 p1 p2 q1 q2 y : Rat} (h : ap_ a1 a2 b1 b2 p1 p2 q1 q2) (hab : a2 < b2) (hpq : p2 < q2) (h1 : a2 ≤ y) (h2 : y ≤ b2) (h3 : p2 ≤ y) (h4 : y ≤ q2) : dl_ a1 a2 b1 b2 p1 p2 q1 q2 y ≠ 0 := by
  intro hz
  unfold dl_ at hz
  have e1 := Rat.inv_mul_cancel (b2 - a2) (by grind)
  have e2 := Rat.inv_mul_cancel (q2 - p2) (by grind)
  have i1 := Rat.inv_pos.mpr (show 0 < b2 - a2 by grind)
  have i2 := Rat.inv_pos.mpr (show 0 < q2 - p2 by grind)
  have k1 := Rat.mul_nonneg (show 0 ≤ y - a2 by grind) (Rat.le_of_lt i1)
  have k2 := Rat.mul_nonneg (show 0 ≤ b2 - y by grind) (Rat.le_of_lt i1)
  have k3 := Rat.mul_nonneg (show 0 ≤ y - p2 by grind) (Rat.le_of_lt i2)
  have k4 := Rat.mul_nonneg (show 0 ≤ q2 - y by grind) (Rat.le_of_lt i2)
  refine h ((y - p2) * (q2 - p2)⁻¹) ((y - a2) * (b2 - a2)⁻¹) k3 (by grind) k1 (by grind) ?_ (by grind)
  have : (b2 - a2)⁻¹ * (q2 - p2)⁻¹ * ((a1 * (b2 - a2) + (y - a2) * (b1 - a1)) * (q2 - p2) - (p1 * (q2 - p2) + (y - p2) * (q1 - p1)) * (b2 - a2)) = 0 := by rw [hz]; grind
  grind
theorem dl_sg {a1 a2 b1 b2 p1 p2 q1 q2 y z : Rat} (h : ap_ a1 a2 b1 b2 p1 p2 q1 q2) (hab : a2 < b2) (hpq : p2 < q2) (h1 : a2 ≤ y) (h2 : y ≤ b2) (h3 : p2 ≤ y) (h4 : y ≤ q2) (k1 : a2 ≤ z) (k2 : z ≤ b2) (k3 : p2 ≤ z) (k4 : z ≤ q2) (hy : 0 < dl_ a1 a2 b1 b2 p1 p2 q1 q2 y) : 0 < dl_ a1 a2 b1 b2 p1 p2 q1 q2 z := by
  rcases gm_tri (dl_ a1 a2 b1 b2 p1 p2 q1 q2 z) 0 with g | g | g
  · exfalso
    have lin : ∀ s : Rat, dl_ a1 a2 b1 b2 p1 p2 q1 q2 (z + s * (y - z)) = dl_ a1 a2 b1 b2 p1 p2 q1 q2 z + s * (dl_ a1 a2 b1 b2 p1 p2 q1 q2 y - dl_ a1 a2 b1 b2 p1 p2 q1 q2 z) := by
      intro s; unfold dl_; grind
    obtain ⟨s, s0, s1, hs⟩ := gm_ivt (f := dl_ a1 a2 b1 b2 p1 p2 q1 q2 z) (g := dl_ a1 a2 b1 b2 p1 p2 q1 q2 y - dl_ a1 a2 b1 b2 p1 p2 q1 q2 z) (t := 1) g (by decide) (by grind)
    have mix : ∀ c : Rat, c ≤ y → c ≤ z → c ≤ z + s * (y - z) := by
      intro c c1 c2
      have e1 := Rat.mul_nonneg s0 (show 0 ≤ y - c by grind)
      have e2 := Rat.mul_nonneg (show 0 ≤ 1 - s by grind) (show 0 ≤ z - c by grind)
      grind
    have mix2 : ∀ c : Rat, y ≤ c → z ≤ c → z + s * (y - z) ≤ c := by
      intro c c1 c2
      have e1 := Rat.mul_nonneg s0 (show 0 ≤ c - y by grind)
      have e2 := Rat.mul_nonneg (show 0 ≤ 1 - s by grind) (show 0 ≤ c - z by grind)
      grind
    exact dl_no h hab hpq (mix _ h1 k1) (mix2 _ h2 k2) (mix _ h3 k3) (mix2 _ h4 k4) (by rw [lin]; exact hs)
  · exact absurd g (dl_no h hab hpq k1 k2 k3 k4)
  · exact g
theorem dl_p (a1 a2 b1 b2 p1 p2 q1 q2 : Rat) : dl_ a1 a2 b1 b2 p1 p2 q1 q2 p2 = tr_ a1 a2 b1 b2 p1 p2 * (q2 - p2) := by unfold dl_ tr_; grind
theorem dl_q (a1 a2 b1 b2 p1 p2 q1 q2 : Rat) : dl_ a1 a2 b1 b2 p1 p2 q1 q2 q2 = tr_ a1 a2 b1 b2 q1 q2 * (q2 - p2) := by unfold dl_ tr_; grind
theorem dl_a (a1 a2 b1 b2 p1 p2 q1 q2 : Rat) : dl_ a1 a2 b1 b2 p1 p2 q1 q2 a2 = -tr_ p1 p2 q1 q2 a1 a2 * (b2 - a2) := by unfold dl_ tr_; grind
theorem dl_b (a1 a2 b1 b2 p1 p2 q1 q2 : Rat) : dl_ a1 a2 b1 b2 p1 p2 q1 q2 b2 = -tr_ p1 p2 q1 q2 b1 b2 * (b2 - a2) := by unfold dl_ tr_; grind
/-- the signs at two heights that both ways reach are the same -/
theorem dl_iff {a1 a2 b1 b2 p1 p2 q1 q2 y z : Rat} (h : ap_ a1 a2 b1 b2 p1 p2 q1 q2) (hab : a2 < b2) (hpq : p2 < q2) (h1 : a2 ≤ y) (h2 : y ≤ b2) (h3 : p2 ≤ y) (h4 : y ≤ q2) (k1 : a2 ≤ z) (k2 : z ≤ b2) (k3 : p2 ≤ z) (k4 : z ≤ q2) : 0 < dl_ a1 a2 b1 b2 p1 p2 q1 q2 y ↔ 0 < dl_ a1 a2 b1 b2 p1 p2 q1 q2 z :=
  ⟨dl_sg h hab hpq h1 h2 h3 h4 k1 k2 k3 k4, dl_sg h hab hpq k1 k2 k3 k4 h1 h2 h3 h4⟩
theorem pos_r {x y : Rat} (hy : 0 < y) : 0 < x * y ↔ 0 < x := Rat.mul_pos_iff_of_pos_right hy
theorem pos_n {x y : Rat} (hy : 0 < y) : 0 < -x * y ↔ x < 0 := by
  rw [Rat.mul_pos_iff_of_pos_right hy]; constructor <;> intro h <;> grind
/-- a way that has no place in common with p q: it crosses the lines to the right from p and from q as often as its ends lie between these, to the right of p q -/
theorem st_up {a1 a2 b1 b2 p1 p2 q1 q2 : Rat} (h : ap_ a1 a2 b1 b2 p1 p2 q1 q2) (hab : a2 < b2) (hpq : p2 < q2) :
    Bool.xor (decide ((a2 ≤ p2 ∧ p2 < b2) ∧ 0 < tr_ a1 a2 b1 b2 p1 p2)) (decide ((a2 ≤ q2 ∧ q2 < b2) ∧ 0 < tr_ a1 a2 b1 b2 q1 q2)) = Bool.xor (decide ((p2 < a2 ∧ a2 ≤ q2) ∧ tr_ p1 p2 q1 q2 a1 a2 < 0)) (decide ((p2 < b2 ∧ b2 ≤ q2) ∧ tr_ p1 p2 q1 q2 b1 b2 < 0)) := by
  have P := pos_r (x := tr_ a1 a2 b1 b2 p1 p2) (show 0 < q2 - p2 by grind)
  have Q := pos_r (x := tr_ a1 a2 b1 b2 q1 q2) (show 0 < q2 - p2 by grind)
  have A := pos_n (x := tr_ p1 p2 q1 q2 a1 a2) (show 0 < b2 - a2 by grind)
  have B := pos_n (x := tr_ p1 p2 q1 q2 b1 b2) (show 0 < b2 - a2 by grind)
  rw [← dl_p a1 a2 b1 b2 p1 p2 q1 q2] at P
  rw [← dl_q a1 a2 b1 b2 p1 p2 q1 q2] at Q
  rw [← dl_a a1 a2 b1 b2 p1 p2 q1 q2] at A
  rw [← dl_b a1 a2 b1 b2 p1 p2 q1 q2] at B
  simp only [← P, ← Q, ← A, ← B]
  by_cases c1 : a2 ≤ p2
  · by_cases c2 : p2 < b2
    · by_cases c3 : b2 ≤ q2
      · have e := dl_iff h hab hpq c1 (Rat.le_of_lt c2) Rat.le_refl (Rat.le_of_lt hpq) (Rat.le_of_lt hab) Rat.le_refl (Rat.le_of_lt c2) c3
        have n1 : ¬ (q2 < b2) := by grind
        have n2 : ¬ (p2 < a2) := by grind
        simp only [c1, c2, c3, n1, n2, true_and, and_true, false_and, and_false, decide_false, Bool.xor_false, Bool.false_xor, e]
      · have c4 : q2 < b2 := by grind
        have e := dl_iff h hab hpq c1 (Rat.le_of_lt c2) Rat.le_refl (Rat.le_of_lt hpq) (by grind) (Rat.le_of_lt c4) (Rat.le_of_lt hpq) Rat.le_refl
        have n1 : a2 ≤ q2 := by grind
        have n2 : ¬ (p2 < a2) := by grind
        simp only [c1, c2, c3, c4, n1, n2, true_and, and_true, false_and, and_false, decide_false, Bool.xor_false, Bool.false_xor, e, Bool.xor_self]
    · have n1 : ¬ (q2 < b2) := by grind
      have n2 : ¬ (p2 < a2) := by grind
      simp only [c2, n1, n2, false_and, and_false, decide_false, Bool.xor_false]
  · have c2 : p2 < a2 := by grind
    have c2b : p2 < b2 := by grind
    by_cases c3 : a2 ≤ q2
    · by_cases c4 : b2 ≤ q2
      · have e := dl_iff h hab hpq Rat.le_refl (Rat.le_of_lt hab) (Rat.le_of_lt c2) c3 (Rat.le_of_lt hab) Rat.le_refl (Rat.le_of_lt c2b) c4
        have n1 : ¬ (q2 < b2) := by grind
        simp only [c1, c2, c2b, c3, c4, n1, true_and, and_true, false_and, and_false, decide_false, Bool.xor_false, Bool.false_xor, e, Bool.xor_self]
      · have c5 : q2 < b2 := by grind
        have e := dl_iff h hab hpq Rat.le_refl (Rat.le_of_lt hab) (Rat.le_of_lt c2) c3 c3 (Rat.le_of_lt c5) (Rat.le_of_lt hpq) Rat.le_refl
        simp only [c1, c2, c2b, c3, c4, c5, true_and, and_true, false_and, and_false, decide_false, Bool.xor_false, Bool.false_xor, e]
    · have n1 : ¬ (b2 ≤ q2) := by grind
      simp only [c1, c3, n1, false_and, and_false, decide_false, Bool.xor_false]
/-- likewise, the upper line a bit below q -/
theorem st_dn {a1 a2 b1 b2 p1 p2 q1 q2 : Rat} (h : ap_ a1 a2 b1 b2 p1 p2 q1 q2) (hab : a2 < b2) (hpq : p2 < q2) :
    Bool.xor (decide ((a2 ≤ p2 ∧ p2 < b2) ∧ 0 < tr_ a1 a2 b1 b2 p1 p2)) (decide ((a2 < q2 ∧ q2 ≤ b2) ∧ 0 < tr_ a1 a2 b1 b2 q1 q2)) = Bool.xor (decide ((p2 < a2 ∧ a2 < q2) ∧ tr_ p1 p2 q1 q2 a1 a2 < 0)) (decide ((p2 < b2 ∧ b2 < q2) ∧ tr_ p1 p2 q1 q2 b1 b2 < 0)) := by
  have P := pos_r (x := tr_ a1 a2 b1 b2 p1 p2) (show 0 < q2 - p2 by grind)
  have Q := pos_r (x := tr_ a1 a2 b1 b2 q1 q2) (show 0 < q2 - p2 by grind)
  have A := pos_n (x := tr_ p1 p2 q1 q2 a1 a2) (show 0 < b2 - a2 by grind)
  have B := pos_n (x := tr_ p1 p2 q1 q2 b1 b2) (show 0 < b2 - a2 by grind)
  rw [← dl_p a1 a2 b1 b2 p1 p2 q1 q2] at P
  rw [← dl_q a1 a2 b1 b2 p1 p2 q1 q2] at Q
  rw [← dl_a a1 a2 b1 b2 p1 p2 q1 q2] at A
  rw [← dl_b a1 a2 b1 b2 p1 p2 q1 q2] at B
  simp only [← P, ← Q, ← A, ← B]
  by_cases c1 : a2 ≤ p2
  · have n2 : ¬ (p2 < a2) := by grind
    have n3 : a2 < q2 := by grind
    by_cases c2 : p2 < b2
    · by_cases c3 : b2 < q2
      · have e := dl_iff h hab hpq c1 (Rat.le_of_lt c2) Rat.le_refl (Rat.le_of_lt hpq) (Rat.le_of_lt hab) Rat.le_refl (Rat.le_of_lt c2) (Rat.le_of_lt c3)
        have n1 : ¬ (q2 ≤ b2) := by grind
        simp only [c1, c2, c3, n1, n2, true_and, and_true, false_and, and_false, decide_false, Bool.xor_false, Bool.false_xor, e]
      · have c4 : q2 ≤ b2 := by grind
        have e := dl_iff h hab hpq c1 (Rat.le_of_lt c2) Rat.le_refl (Rat.le_of_lt hpq) (Rat.le_of_lt n3) c4 (Rat.le_of_lt hpq) Rat.le_refl
        simp only [c1, c2, c3, c4, n2, n3, true_and, and_true, false_and, and_false, decide_false, Bool.xor_false, Bool.false_xor, e, Bool.xor_self]
    · have n1 : ¬ (q2 ≤ b2) := by grind
      simp only [c2, n1, n2, false_and, and_false, decide_false, Bool.xor_false]
  · have c2 : p2 < a2 := by grind
    have c2b : p2 < b2 := by grind
    by_cases c3 : a2 < q2
    · by_cases c4 : b2 < q2
      · have e := dl_iff h hab hpq Rat.le_refl (Rat.le_of_lt hab) (Rat.le_of_lt c2) (Rat.le_of_lt c3) (Rat.le_of_lt hab) Rat.le_refl (Rat.le_of_lt c2b) (Rat.le_of_lt c4)
        have n1 : ¬ (q2 ≤ b2) := by grind
        simp only [c1, c2, c2b, c3, c4, n1, true_and, and_true, false_and, and_false, decide_false, Bool.xor_false, Bool.false_xor, e, Bool.xor_self]
      · have c5 : q2 ≤ b2 := by grind
        have e := dl_iff h hab hpq Rat.le_refl (Rat.le_of_lt hab) (Rat.le_of_lt c2) (Rat.le_of_lt c3) (Rat.le_of_lt c3) c5 (Rat.le_of_lt hpq) Rat.le_refl
        simp only [c1, c2, c2b, c3, c4, c5, true_and, and_true, false_and, and_false, decide_false, Bool.xor_false, Bool.false_xor, e]
    · have n1 : ¬ (b2 < q2) := by grind
      simp only [c1, c3, n1, false_and, and_false, decide_false, Bool.xor_false]
/-- a level way that has no place in common with p q, at a height that this reaches: both its ends lie on one side -/
theorem st_lv {a1 a2 b1 b2 p1 p2 q1 q2 : Rat} (h : ap_ a1 a2 b1 b2 p1 p2 q1 q2) (hab : a2 = b2) (hpq : p2 < q2) (h1 : p2 ≤ a2) (h2 : a2 ≤ q2) : tr_ p1 p2 q1 q2 a1 a2 < 0 ↔ tr_ p1 p2 q1 q2 b1 b2 < 0 := by
  subst hab
  have e2 := Rat.inv_mul_cancel (q2 - p2) (by grind)
  have i2 := Rat.inv_pos.mpr (show 0 < q2 - p2 by grind)
  have k3 := Rat.mul_nonneg (show 0 ≤ a2 - p2 by grind) (Rat.le_of_lt i2)
  have k4 := Rat.mul_nonneg (show 0 ≤ q2 - a2 by grind) (Rat.le_of_lt i2)
  have no : ∀ v : Rat, 0 ≤ v → v ≤ 1 → tr_ p1 p2 q1 q2 a1 a2 + v * (tr_ p1 p2 q1 q2 b1 a2 - tr_ p1 p2 q1 q2 a1 a2) ≠ 0 := by
    intro v v0 v1 hz
    refine h ((a2 - p2) * (q2 - p2)⁻¹) v k3 (by grind) v0 v1 ?_ (by grind)
    unfold tr_ at hz
    have : (q2 - p2)⁻¹ * ((q1 - p1) * (a2 - p2) - (q2 - p2) * (a1 - p1) + v * ((q1 - p1) * (a2 - p2) - (q2 - p2) * (b1 - p1) - ((q1 - p1) * (a2 - p2) - (q2 - p2) * (a1 - p1)))) = 0 := by rw [hz]; grind
    grind
  constructor
  · intro g
    rcases gm_tri (tr_ p1 p2 q1 q2 b1 a2) 0 with k | k | k
    · exact k
    · exact absurd (by grind) (no 1 (by decide) (by decide))
    · obtain ⟨s, s0, s1, hs⟩ := gm_ivt (f := tr_ p1 p2 q1 q2 a1 a2) (g := tr_ p1 p2 q1 q2 b1 a2 - tr_ p1 p2 q1 q2 a1 a2) (t := 1) g (by decide) (by grind)
      exact absurd hs (no s s0 s1)
  · intro g
    rcases gm_tri (tr_ p1 p2 q1 q2 a1 a2) 0 with k | k | k
    · exact k
    · exact absurd (by grind) (no 0 (by decide) (by decide))
    · obtain ⟨s, s0, s1, hs⟩ := gm_ivt (f := -tr_ p1 p2 q1 q2 a1 a2) (g := tr_ p1 p2 q1 q2 a1 a2 - tr_ p1 p2 q1 q2 b1 a2) (t := 1) (by grind) (by decide) (by grind)
      exact absurd (by grind) (no s s0 s1)
/-- two places at one height with nothing of a way between them lie on one side of it -/
theorem st_eq {a1 a2 b1 b2 p1 q1 y : Rat} (h : ap_ a1 a2 b1 b2 p1 y q1 y) (hab : a2 < b2) (h1 : a2 ≤ y) (h2 : y ≤ b2) : 0 < tr_ a1 a2 b1 b2 p1 y ↔ 0 < tr_ a1 a2 b1 b2 q1 y := by
  have e1 := Rat.inv_mul_cancel (b2 - a2) (by grind)
  have i1 := Rat.inv_pos.mpr (show 0 < b2 - a2 by grind)
  have k1 := Rat.mul_nonneg (show 0 ≤ y - a2 by grind) (Rat.le_of_lt i1)
  have k2 := Rat.mul_nonneg (show 0 ≤ b2 - y by grind) (Rat.le_of_lt i1)
  have no : ∀ u : Rat, 0 ≤ u → u ≤ 1 → tr_ a1 a2 b1 b2 p1 y + u * (tr_ a1 a2 b1 b2 q1 y - tr_ a1 a2 b1 b2 p1 y) ≠ 0 := by
    intro u u0 u1 hz
    refine h u ((y - a2) * (b2 - a2)⁻¹) u0 u1 k1 (by grind) ?_ (by grind)
    unfold tr_ at hz
    have : (b2 - a2)⁻¹ * ((b1 - a1) * (y - a2) - (b2 - a2) * (p1 - a1) + u * ((b1 - a1) * (y - a2) - (b2 - a2) * (q1 - a1) - ((b1 - a1) * (y - a2) - (b2 - a2) * (p1 - a1)))) = 0 := by rw [hz]; grind
    grind
  constructor
  · intro g
    rcases gm_tri (tr_ a1 a2 b1 b2 q1 y) 0 with k | k | k
    · obtain ⟨s, s0, s1, hs⟩ := gm_ivt (f := -tr_ a1 a2 b1 b2 p1 y) (g := tr_ a1 a2 b1 b2 p1 y - tr_ a1 a2 b1 b2 q1 y) (t := 1) (by grind) (by decide) (by grind)
      exact absurd (by grind) (no s s0 s1)
    · exact absurd (by grind) (no 1 (by decide) (by decide))
    · exact k
  · intro g
    rcases gm_tri (tr_ a1 a2 b1 b2 p1 y) 0 with k | k | k
    · obtain ⟨s, s0, s1, hs⟩ := gm_ivt (f := tr_ a1 a2 b1 b2 p1 y) (g := tr_ a1 a2 b1 b2 q1 y - tr_ a1 a2 b1 b2 p1 y) (t := 1) k (by decide) (by grind)
      exact absurd hs (no s s0 s1)
    · exact absurd (by grind) (no 0 (by decide) (by decide))
    · exact k
end GET
