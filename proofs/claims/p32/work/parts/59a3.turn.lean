section TRQ
def sgc3 (z : Int) : Int := if 0 < z then 1 else if z < 0 then -1 else 0
theorem sgc3_b (z : Int) : -1 ≤ sgc3 z ∧ sgc3 z ≤ 1 := by unfold sgc3; split <;> (try split) <;> omega
theorem sgc3_p {z : Int} : 0 < sgc3 z ↔ 0 < z := by unfold sgc3; split <;> (try split) <;> omega
theorem sgc3_n {z : Int} : sgc3 z < 0 ↔ z < 0 := by unfold sgc3; split <;> (try split) <;> omega
theorem sgc3_0 {z : Int} : sgc3 z = 0 ↔ z = 0 := by unfold sgc3; split <;> (try split) <;> omega
theorem b11 {a b : Int} (ha : -1 ≤ a ∧ a ≤ 1) (hb : -1 ≤ b ∧ b ≤ 1) : (-1 ≤ a * b ∧ a * b ≤ 1) ∧ (a * b < 0 ↔ (a < 0 ∧ 0 < b) ∨ (0 < a ∧ b < 0)) ∧ (0 < a * b ↔ (a < 0 ∧ b < 0) ∨ (0 < a ∧ 0 < b)) := by
  have h1 : a = -1 ∨ a = 0 ∨ a = 1 := by omega
  have h2 : b = -1 ∨ b = 0 ∨ b = 1 := by omega
  rcases h1 with rfl | rfl | rfl <;> rcases h2 with rfl | rfl | rfl <;> decide
abbrev rB (x : Int) : Prop := -1000000000 ≤ x ∧ x ≤ 1000000000
theorem turnQ {ax ay bx by_ cx cy : Int} (h1 : rB ax) (h2 : rB ay) (h3 : rB bx) (h4 : rB by_) (h5 : rB cx) (h6 : rB cy) : fQ_turnOf ax ay bx by_ cx cy = sgc3 (oi_ ax ay bx by_ cx cy) := by
  have m1 := ml_b (M := 2000000000) (N := 2000000000) (a := bx - ax) (b := cy - ay) (by decide) (by decide) (by omega) (by omega)
  have m2 := ml_b (M := 2000000000) (N := 2000000000) (a := by_ - ay) (b := cx - ax) (by decide) (by decide) (by omega) (by omega)
  unfold fQ_turnOf fL_compare sgc3 oi_
  rw [w64_of (x := (bx - ax) * (cy - ay)) (by omega) (by omega), w64_of (x := (by_ - ay) * (cx - ax)) (by omega) (by omega)]
  generalize (bx - ax) * (cy - ay) = p at *
  generalize (by_ - ay) * (cx - ax) = q at *
  repeat' split
  all_goals omega
theorem turnOf_b (a b c d e f : Int) : -1 ≤ fQ_turnOf a b c d e f ∧ fQ_turnOf a b c d e f ≤ 1 := by
  unfold fQ_turnOf fL_compare
  repeat' split
  all_goals omega
/-- which side of segment i a place is on -/
def TE (σ : SG) (e : Nat) (i x y : Int) : Int := oi_ (σ (kE_ax e) i) (σ (kE_ay e) i) (σ (kE_bx e) i) (σ (kE_by e) i) x y
/-- two segments cross, each between the other one's ends -/
def PCE (σ : SG) (e : Nat) (i j : Int) : Prop := ((TE σ e i (σ (kE_ax e) j) (σ (kE_ay e) j) < 0 ∧ 0 < TE σ e i (σ (kE_bx e) j) (σ (kE_by e) j)) ∨ (0 < TE σ e i (σ (kE_ax e) j) (σ (kE_ay e) j) ∧ TE σ e i (σ (kE_bx e) j) (σ (kE_by e) j) < 0)) ∧ ((TE σ e j (σ (kE_ax e) i) (σ (kE_ay e) i) < 0 ∧ 0 < TE σ e j (σ (kE_bx e) i) (σ (kE_by e) i)) ∨ (0 < TE σ e j (σ (kE_ax e) i) (σ (kE_ay e) i) ∧ TE σ e j (σ (kE_bx e) i) (σ (kE_by e) i) < 0))
theorem PCE_mk {σ : SG} {e : Nat} {i j a b c d : Int} (h1 : a = sgc3 (TE σ e i (σ (kE_ax e) j) (σ (kE_ay e) j))) (h2 : b = sgc3 (TE σ e i (σ (kE_bx e) j) (σ (kE_by e) j))) (h3 : c = sgc3 (TE σ e j (σ (kE_ax e) i) (σ (kE_ay e) i))) (h4 : d = sgc3 (TE σ e j (σ (kE_bx e) i) (σ (kE_by e) i))) (hh : a * b < 0 ∧ c * d < 0) : PCE σ e i j := by
  subst h1 h2 h3 h4
  have p := (b11 (sgc3_b (TE σ e i (σ (kE_ax e) j) (σ (kE_ay e) j))) (sgc3_b (TE σ e i (σ (kE_bx e) j) (σ (kE_by e) j)))).2.1.mp hh.1
  have q := (b11 (sgc3_b (TE σ e j (σ (kE_ax e) i) (σ (kE_ay e) i))) (sgc3_b (TE σ e j (σ (kE_bx e) i) (σ (kE_by e) i)))).2.1.mp hh.2
  simp only [sgc3_p, sgc3_n] at p q
  exact ⟨p, q⟩
end TRQ
