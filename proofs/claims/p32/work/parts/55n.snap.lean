section SNN
def HA (a b c : Int) : Prop := (a < 0 ∧ ¬ b < 0) ∨ (a = 0 ∧ 0 < b) ∨ (((a < 0 ∧ b < 0) ∨ (a = 0 ∧ b = 0) ∨ (0 < a ∧ 0 < b)) ∧ c < 0)
def AA (f g c : Int) : Prop := (0 < f ∧ g < 0) ∨ ((0 < f ↔ 0 < g) ∧ c < 0)
def sg3 (x : Int) : Fin 3 := if x < 0 then 0 else if x = 0 then 1 else 2
theorem sg3_c (x : Int) : (x < 0 ∧ sg3 x = 0) ∨ (x = 0 ∧ sg3 x = 1) ∨ (0 < x ∧ sg3 x = 2) := by
  unfold sg3
  rcases Int.lt_trichotomy x 0 with q | q | q
  · exact Or.inl ⟨q, if_pos q⟩
  · exact Or.inr (Or.inl ⟨q, by rw [if_neg (by omega), if_pos q]⟩)
  · exact Or.inr (Or.inr ⟨q, by rw [if_neg (by omega), if_neg (by omega)]⟩)
theorem sg3_0 (x : Int) : sg3 x = 0 ↔ x < 0 := by
  rcases sg3_c x with ⟨h, e⟩ | ⟨h, e⟩ | ⟨h, e⟩ <;> rw [e]
  · exact ⟨fun _ => h, fun _ => rfl⟩
  · exact ⟨fun q => absurd q (by decide), fun q => by omega⟩
  · exact ⟨fun q => absurd q (by decide), fun q => by omega⟩
theorem sg3_1 (x : Int) : sg3 x = 1 ↔ x = 0 := by
  rcases sg3_c x with ⟨h, e⟩ | ⟨h, e⟩ | ⟨h, e⟩ <;> rw [e]
  · exact ⟨fun q => absurd q (by decide), fun q => by omega⟩
  · exact ⟨fun _ => h, fun _ => rfl⟩
  · exact ⟨fun q => absurd q (by decide), fun q => by omega⟩
theorem sg3_2 (x : Int) : sg3 x = 2 ↔ 0 < x := by
  rcases sg3_c x with ⟨h, e⟩ | ⟨h, e⟩ | ⟨h, e⟩ <;> rw [e]
  · exact ⟨fun q => absurd q (by decide), fun q => by omega⟩
  · exact ⟨fun q => absurd q (by decide), fun q => by omega⟩
  · exact ⟨fun _ => h, fun _ => rfl⟩
def ps3 (s : Fin 3) (f : Bool) : Fin 3 := if f = true then s else if s = 0 then 2 else if s = 1 then 1 else 0
def ok3 (p q r : Fin 3) : Bool := (p != 2 || q == 2 || r == 2) && (p != 0 || q == 0 || r == 0) && (p != 1 || (q == 1 && r == 1) || (q == 2 && r == 0) || (q == 0 && r == 2))
def ha3 (a b c : Fin 3) : Bool := (a == 0 && b != 0) || (a == 1 && b == 2) || (a == b && c == 0)
def aa3 (f g : Bool) (c : Fin 3) : Bool := (f && !g) || (f == g && c == 0)
theorem key3 : ∀ (e x y : Bool) (a b c : Fin 3), ok3 (ps3 b x) (ps3 a y) (ps3 c e) = true → (a = 1 → e = !x) → (b = 1 → e = !y) → (c = 1 → x = !y) → ha3 a b c = ((aa3 e x a && (!aa3 e y b || aa3 x y c)) || (!aa3 e x a && !aa3 e y b && aa3 x y c)) := by decide +kernel
theorem ps3_mul {a f : Int} (f0 : f ≠ 0) : sg3 (a * f) = ps3 (sg3 a) (decide (0 < f)) := by
  obtain ⟨p1, p2, p3, p4, p5⟩ := @sgn_mul a f
  have hf : (0 < f ∧ decide (0 < f) = true) ∨ (f < 0 ∧ decide (0 < f) = false) := by
    by_cases q : 0 < f
    · exact Or.inl ⟨q, decide_eq_true q⟩
    · exact Or.inr ⟨by omega, decide_eq_false q⟩
  rcases hf with ⟨h, e⟩ | ⟨h, e⟩ <;> rcases sg3_c a with ⟨k, d⟩ | ⟨k, d⟩ | ⟨k, d⟩ <;> rw [e, d]
  · exact (sg3_0 _).mpr (p3 k h)
  · exact (sg3_1 _).mpr (p5 k)
  · exact (sg3_2 _).mpr (p1 k h)
  · exact (sg3_2 _).mpr (p4 k h)
  · exact (sg3_1 _).mpr (p5 k)
  · exact (sg3_0 _).mpr (p2 k h)
theorem ok3_add {p q r : Int} (h : p = q + r) : ok3 (sg3 p) (sg3 q) (sg3 r) = true := by
  rcases sg3_c p with ⟨k, d⟩ | ⟨k, d⟩ | ⟨k, d⟩ <;> rcases sg3_c q with ⟨l, e⟩ | ⟨l, e⟩ | ⟨l, e⟩ <;> rcases sg3_c r with ⟨m, f⟩ | ⟨m, f⟩ | ⟨m, f⟩ <;> rw [d, e, f] <;> first | rfl | (exfalso; omega)
theorem ha3_iff (a b c : Int) : ha3 (sg3 a) (sg3 b) (sg3 c) = true ↔ HA a b c := by
  unfold HA
  rcases sg3_c a with ⟨k, d⟩ | ⟨k, d⟩ | ⟨k, d⟩ <;> rcases sg3_c b with ⟨l, e⟩ | ⟨l, e⟩ | ⟨l, e⟩ <;> rcases sg3_c c with ⟨m, f⟩ | ⟨m, f⟩ | ⟨m, f⟩ <;> rw [d, e, f] <;> first | exact ⟨fun _ => by omega, fun _ => rfl⟩ | exact ⟨fun q => absurd q (by decide), fun q => by omega⟩
theorem aa3_iff {f g : Int} (c : Int) (g0 : g ≠ 0) : aa3 (decide (0 < f)) (decide (0 < g)) (sg3 c) = true ↔ AA f g c := by
  unfold AA
  have hf : ∀ f : Int, (0 < f ∧ decide (0 < f) = true) ∨ (¬ 0 < f ∧ decide (0 < f) = false) := by
    intro f
    by_cases q : 0 < f
    · exact Or.inl ⟨q, decide_eq_true q⟩
    · exact Or.inr ⟨q, decide_eq_false q⟩
  rcases hf f with ⟨k, d⟩ | ⟨k, d⟩ <;> rcases hf g with ⟨l, e⟩ | ⟨l, e⟩ <;> rcases sg3_c c with ⟨m, f⟩ | ⟨m, f⟩ | ⟨m, f⟩ <;> rw [d, e, f] <;> first | exact ⟨fun _ => by omega, fun _ => rfl⟩ | exact ⟨fun q => absurd q (by decide), fun q => by omega⟩
/-- ahead, going on clockwise from e: by sides of e, or by half planes -/
theorem ahead_key {a b c fe fx fy : Int} (id : b * fx = a * fy + c * fe) (e0 : fe ≠ 0) (x0 : fx ≠ 0) (y0 : fy ≠ 0) (ha : a = 0 → (0 < fe ↔ ¬ 0 < fx)) (hb : b = 0 → (0 < fe ↔ ¬ 0 < fy)) (hc : c = 0 → (0 < fx ↔ ¬ 0 < fy)) : HA a b c ↔ ((AA fe fx a ∧ (AA fe fy b → AA fx fy c)) ∨ (¬ AA fe fx a ∧ ¬ AA fe fy b ∧ AA fx fy c)) := by
  have ok := ok3_add id
  rw [ps3_mul x0, ps3_mul y0, ps3_mul e0] at ok
  have nb : ∀ f g : Int, (0 < f ↔ ¬ 0 < g) → decide (0 < f) = !decide (0 < g) := by
    intro f g h
    by_cases q : 0 < g
    · rw [decide_eq_true q, decide_eq_false (fun r => h.mp r q)]; rfl
    · rw [decide_eq_false q, decide_eq_true (h.mpr q)]; rfl
  have k := key3 _ _ _ _ _ _ ok (fun q => nb _ _ (ha ((sg3_1 _).mp q))) (fun q => nb _ _ (hb ((sg3_1 _).mp q))) (fun q => nb _ _ (hc ((sg3_1 _).mp q)))
  rw [← ha3_iff, ← aa3_iff a x0, ← aa3_iff b y0, ← aa3_iff c y0, k]
  cases aa3 (decide (0 < fe)) (decide (0 < fx)) (sg3 a) <;> cases aa3 (decide (0 < fe)) (decide (0 < fy)) (sg3 b) <;> cases aa3 (decide (0 < fx)) (decide (0 < fy)) (sg3 c) <;> decide
theorem cross_bd {a b c d : Int} (ha : -1000000000 ≤ a ∧ a ≤ 1000000000) (hb : -1000000000 ≤ b ∧ b ≤ 1000000000) (hc : -1000000000 ≤ c ∧ c ≤ 1000000000) (hd : -1000000000 ≤ d ∧ d ≤ 1000000000) : -2000000000000000000 ≤ a * d - b * c ∧ a * d - b * c ≤ 2000000000000000000 := by
  have h1 : -1000000000000000000 ≤ a * d ∧ a * d ≤ 1000000000000000000 := by
    have x1 := Int.mul_nonneg (show 0 ≤ 1000000000 - a by omega) (show 0 ≤ 1000000000 - d by omega)
    have x2 := Int.mul_nonneg (show 0 ≤ 1000000000 + a by omega) (show 0 ≤ 1000000000 + d by omega)
    have x3 := Int.mul_nonneg (show 0 ≤ 1000000000 - a by omega) (show 0 ≤ 1000000000 + d by omega)
    have x4 := Int.mul_nonneg (show 0 ≤ 1000000000 + a by omega) (show 0 ≤ 1000000000 - d by omega)
    constructor <;> grind
  have h2 : -1000000000000000000 ≤ b * c ∧ b * c ≤ 1000000000000000000 := by
    have x1 := Int.mul_nonneg (show 0 ≤ 1000000000 - b by omega) (show 0 ≤ 1000000000 - c by omega)
    have x2 := Int.mul_nonneg (show 0 ≤ 1000000000 + b by omega) (show 0 ≤ 1000000000 + c by omega)
    have x3 := Int.mul_nonneg (show 0 ≤ 1000000000 - b by omega) (show 0 ≤ 1000000000 + c by omega)
    have x4 := Int.mul_nonneg (show 0 ≤ 1000000000 + b by omega) (show 0 ≤ 1000000000 - c by omega)
    constructor <;> grind
  omega
theorem isAhead_iff {b1 b2 v1 v2 u1 u2 : Int} (h1 : -1000000000 ≤ b1 ∧ b1 ≤ 1000000000) (h2 : -1000000000 ≤ b2 ∧ b2 ≤ 1000000000) (h3 : -1000000000 ≤ v1 ∧ v1 ≤ 1000000000) (h4 : -1000000000 ≤ v2 ∧ v2 ≤ 1000000000) (h5 : -1000000000 ≤ u1 ∧ u1 ≤ 1000000000) (h6 : -1000000000 ≤ u2 ∧ u2 ≤ 1000000000) : fR_isAhead b1 b2 v1 v2 u1 u2 = true ↔ HA (b1 * v2 - b2 * v1) (b1 * u2 - b2 * u1) (v1 * u2 - v2 * u1) := by
  have c1 := cross_bd h1 h2 h3 h4
  have c2 := cross_bd h1 h2 h5 h6
  have c3 := cross_bd h3 h4 h5 h6
  unfold fR_isAhead fR_cross HA
  rw [w64_of (x := b1 * v2 - b2 * v1) (by omega) (by omega), w64_of (x := b1 * u2 - b2 * u1) (by omega) (by omega), w64_of (x := v1 * u2 - v2 * u1) (by omega) (by omega)]
  generalize b1 * v2 - b2 * v1 = a
  generalize b1 * u2 - b2 * u1 = b
  generalize v1 * u2 - v2 * u1 = c
  have hw : ∀ x : Int, w32 (if x < 0 then 0 else if x = 0 then 1 else 2) = (if x < 0 then 0 else if x = 0 then 1 else 2) := by
    intro x
    have : 0 ≤ (if x < 0 then (0 : Int) else if x = 0 then 1 else 2) ∧ (if x < 0 then (0 : Int) else if x = 0 then 1 else 2) ≤ 2 := by
      by_cases q : x < 0
      · rw [if_pos q]; omega
      · rw [if_neg q]
        by_cases r : x = 0
        · rw [if_pos r]; omega
        · rw [if_neg r]; omega
    exact w32_of (by omega) (by omega)
  rw [hw, hw, decide_eq_true_iff]
  have sa : a < 0 ∨ a = 0 ∨ 0 < a := by omega
  have sb : b < 0 ∨ b = 0 ∨ 0 < b := by omega
  have va : (a < 0 ∧ (if a < 0 then (0 : Int) else if a = 0 then 1 else 2) = 0) ∨ (a = 0 ∧ (if a < 0 then (0 : Int) else if a = 0 then 1 else 2) = 1) ∨ (0 < a ∧ (if a < 0 then (0 : Int) else if a = 0 then 1 else 2) = 2) := by
    rcases sa with q | q | q
    · exact Or.inl ⟨q, if_pos q⟩
    · exact Or.inr (Or.inl ⟨q, by rw [if_neg (by omega), if_pos q]⟩)
    · exact Or.inr (Or.inr ⟨q, by rw [if_neg (by omega), if_neg (by omega)]⟩)
  have vb : (b < 0 ∧ (if b < 0 then (0 : Int) else if b = 0 then 1 else 2) = 0) ∨ (b = 0 ∧ (if b < 0 then (0 : Int) else if b = 0 then 1 else 2) = 1) ∨ (0 < b ∧ (if b < 0 then (0 : Int) else if b = 0 then 1 else 2) = 2) := by
    rcases sb with q | q | q
    · exact Or.inl ⟨q, if_pos q⟩
    · exact Or.inr (Or.inl ⟨q, by rw [if_neg (by omega), if_pos q]⟩)
    · exact Or.inr (Or.inr ⟨q, by rw [if_neg (by omega), if_neg (by omega)]⟩)
  generalize (if a < 0 then (0 : Int) else if a = 0 then 1 else 2) = A at *
  generalize (if b < 0 then (0 : Int) else if b = 0 then 1 else 2) = B at *
  omega
theorem rd_tr {m : Nat} {inc : Nat → Bool} {af : Nat → Nat → Bool} (h : so_ m inc af) {e x y z : Nat} (he : e < m) (hx : x < m) (hy : y < m) (hz : z < m) (ie : inc e = true) (ix : inc x = true) (iy : inc y = true) (iz : inc z = true) (h1 : rd1_ af e x y = true) (h2 : rd1_ af e y z = true) : rd1_ af e x z = true := by
  have t := h.2.1 x y z hx hy hz ix iy iz
  unfold rd1_ at *
  cases q1 : af e x <;> cases q2 : af e y <;> cases q3 : af e z <;> simp [q1, q2, q3] at h1 h2 ⊢ <;> exact t h1 h2
theorem rd_as {m : Nat} {inc : Nat → Bool} {af : Nat → Nat → Bool} (h : so_ m inc af) {e x y : Nat} (hx : x < m) (hy : y < m) (ix : inc x = true) (iy : inc y = true) (h1 : rd1_ af e x y = true) : rd1_ af e y x = false := by
  have t := fun q => so_asym h hx hy ix iy q
  unfold rd1_ at *
  cases q1 : af e x <;> cases q2 : af e y <;> simp [q1, q2] at h1 ⊢ <;> exact t h1
end SNN
