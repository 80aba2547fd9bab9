section SNC
theorem wp_and {α : Type} {o : Option α} {P Q : α → Prop} (h : wp_ o P) (k : wp_ o Q) : wp_ o (fun x => P x ∧ Q x) := by
  obtain ⟨r, h1, h2⟩ := h
  obtain ⟨s, k1, k2⟩ := k
  rw [h1] at k1
  cases k1
  exact ⟨r, h1, h2, k2⟩
theorem wp_t {α β : Type} {o : Option α} {k : α → Option β} {Q : β → Prop} (h : wp_ o (fun _ => True)) (hk : ∀ x, wp_ (k x) Q) : wp_ (bd_ o k) Q := wp_bd h (fun x _ _ => hk x)
theorem v_alongI {σ : SG} {i j : Int} (i0 : 0 ≤ i) (i1 : i ≤ 4199) (j0 : 0 ≤ j) (j1 : j ≤ 4199) : wp_ (fR_along σ i j) (fun r => r.1 = 0 ∨ r.2 kR_isInner 0 = 0) := by
  unfold fR_along
  rw [w32_of (x := i) (by omega) (by omega), w32_of (x := j) (by omega) (by omega)]
  have two : ∀ {c d : Nat} {k : Int} {p : Prop} [Decidable p], 0 ≤ k → k ≤ 4199 → wp_ (if p then rd_ σ c 4200 k fun x => some x else rd_ σ d 4200 k fun x => some x) (fun _ => True) := fun k0 k1 => wp_if (fun _ => wp_rd k0 (by omega) (wp_some trivial)) (fun _ => wp_rd k0 (by omega) (wp_some trivial))
  refine wp_rd i0 (by omega) (wp_rd i0 (by omega) (wp_rd i0 (by omega) (wp_rd i0 (by omega) ?_)))
  refine wp_t (two i0 i1) (fun a => wp_t (two i0 i1) (fun b => wp_t (two i0 i1) (fun c => wp_t (two i0 i1) (fun d => ?_))))
  refine wp_rd j0 (by omega) (wp_rd j0 (by omega) (wp_rd j0 (by omega) (wp_rd j0 (by omega) ?_)))
  refine wp_t (two j0 j1) (fun e => wp_t (two j0 j1) (fun f => wp_t (two j0 j1) (fun g => wp_t (two j0 j1) (fun h => ?_))))
  refine wp_lt (fun p _ => wp_lt (fun q _ => wp_lt (fun r _ => wp_lt (fun s _ => ?_))))
  refine wp_if (fun _ => wp_some (Or.inl rfl)) (fun _ => ?_)
  refine wp_bd (P := fun τ => τ kR_isInner 0 = 0) ?_ (fun τ _ h => wp_some (Or.inr h))
  unfold fR_meetsAt
  refine wp_wf (wp_wf (wp_wf (wp_some ?_)))
  rw [sg_nc (by decide), sg_nc (by decide), sg_at]; rfl
/-- which side of segment i a place is on -/
def TS (σ : SG) (i : Int) (x y : Int) : Int := oi_ (σ kR_sx i) (σ kR_sy i) (σ kR_ex i) (σ kR_ey i) x y
/-- two segments cross, each between the other one's ends -/
def PC (σ : SG) (i j : Int) : Prop := ((TS σ i (σ kR_sx j) (σ kR_sy j) < 0 ∧ 0 < TS σ i (σ kR_ex j) (σ kR_ey j)) ∨ (0 < TS σ i (σ kR_sx j) (σ kR_sy j) ∧ TS σ i (σ kR_ex j) (σ kR_ey j) < 0)) ∧ ((TS σ j (σ kR_sx i) (σ kR_sy i) < 0 ∧ 0 < TS σ j (σ kR_ex i) (σ kR_ey i)) ∨ (0 < TS σ j (σ kR_sx i) (σ kR_sy i) ∧ TS σ j (σ kR_ex i) (σ kR_ey i) < 0))
theorem v_meetI {σ : SG} {i j : Int} (hσ : II σ) (i0 : 0 ≤ i) (i1 : i ≤ 4199) (j0 : 0 ≤ j) (j1 : j ≤ 4199) : wp_ (fR_meet σ i j) (fun r => (r.1 = 1 ∧ nz (r.2 kR_isInner 0) = true) ↔ PC σ i j) := by
  unfold fR_meet
  rw [w32_of (x := i) (by omega) (by omega), w32_of (x := j) (by omega) (by omega)]
  have bsx := fun k => ii_kR_sx hσ k
  have bsy := fun k => ii_kR_sy hσ k
  have bex := fun k => ii_kR_ex hσ k
  have bey := fun k => ii_kR_ey hσ k
  have t1 := turn_sg (bsx i) (bsy i) (bex i) (bey i) (bsx j) (bsy j)
  have t2 := turn_sg (bsx i) (bsy i) (bex i) (bey i) (bex j) (bey j)
  have t3 := turn_sg (bsx j) (bsy j) (bex j) (bey j) (bsx i) (bsy i)
  have t4 := turn_sg (bsx j) (bsy j) (bex j) (bey j) (bex i) (bey i)
  refine wp_rd i0 (by omega) (wp_rd i0 (by omega) (wp_rd i0 (by omega) (wp_rd i0 (by omega) (wp_rd j0 (by omega) (wp_rd j0 (by omega) ?_)))))
  refine wp_rd i0 (by omega) (wp_rd i0 (by omega) (wp_rd i0 (by omega) (wp_rd i0 (by omega) (wp_rd j0 (by omega) (wp_rd j0 (by omega) ?_)))))
  refine wp_rd j0 (by omega) (wp_rd j0 (by omega) (wp_rd j0 (by omega) (wp_rd j0 (by omega) (wp_rd i0 (by omega) (wp_rd i0 (by omega) ?_)))))
  refine wp_rd j0 (by omega) (wp_rd j0 (by omega) (wp_rd j0 (by omega) (wp_rd j0 (by omega) (wp_rd i0 (by omega) (wp_rd i0 (by omega) ?_)))))
  unfold PC TS
  generalize oi_ (σ kR_sx i) (σ kR_sy i) (σ kR_ex i) (σ kR_ey i) (σ kR_sx j) (σ kR_sy j) = A at *
  generalize oi_ (σ kR_sx i) (σ kR_sy i) (σ kR_ex i) (σ kR_ey i) (σ kR_ex j) (σ kR_ey j) = B at *
  generalize oi_ (σ kR_sx j) (σ kR_sy j) (σ kR_ex j) (σ kR_ey j) (σ kR_sx i) (σ kR_sy i) = C at *
  generalize oi_ (σ kR_sx j) (σ kR_sy j) (σ kR_ex j) (σ kR_ey j) (σ kR_ex i) (σ kR_ey i) = D at *
  generalize fR_turn (σ kR_sx i) (σ kR_sy i) (σ kR_ex i) (σ kR_ey i) (σ kR_sx j) (σ kR_sy j) = a at *
  generalize fR_turn (σ kR_sx i) (σ kR_sy i) (σ kR_ex i) (σ kR_ey i) (σ kR_ex j) (σ kR_ey j) = b at *
  generalize fR_turn (σ kR_sx j) (σ kR_sy j) (σ kR_ex j) (σ kR_ey j) (σ kR_sx i) (σ kR_sy i) = c at *
  generalize fR_turn (σ kR_sx j) (σ kR_sy j) (σ kR_ex j) (σ kR_ey j) (σ kR_ex i) (σ kR_ey i) = d at *
  obtain ⟨a1, a2, a3, a4, a5⟩ := t1
  obtain ⟨b1, b2, b3, b4, b5⟩ := t2
  obtain ⟨c1, c2, c3, c4, c5⟩ := t3
  obtain ⟨d1, d2, d3, d4, d5⟩ := t4
  have pm : ∀ {x y : Int}, -1 ≤ x → x ≤ 1 → -1 ≤ y → y ≤ 1 → (-1 ≤ x * y ∧ x * y ≤ 1) ∧ (0 < x * y ↔ (0 < x ∧ 0 < y) ∨ (x < 0 ∧ y < 0)) := by
    intro x y x0 x1 y0 y1
    rcases (show x = -1 ∨ x = 0 ∨ x = 1 by omega) with q | q | q <;> rw [q] <;> omega
  have pab := pm a1 a2 b1 b2
  have pcd := pm c1 c2 d1 d2
  rw [w32_of (x := a) (by omega) (by omega), w32_of (x := b) (by omega) (by omega), w32_of (x := c) (by omega) (by omega), w32_of (x := d) (by omega) (by omega), w32_of (x := a * b) (by omega) (by omega), w32_of (x := c * d) (by omega) (by omega)]
  have nin : ∀ τ : SG, τ kR_isInner 0 = 0 → ¬ nz (τ kR_isInner 0) = true := by intro τ h q; rw [h] at q; cases q
  refine wp_if (fun g => ?_) (fun g => ?_)
  · refine wp_bd (v_alongI i0 i1 j0 j1) ?_
    rintro ⟨x, τ⟩ - h
    dsimp only at h ⊢
    refine wp_some ⟨?_, fun q => by omega⟩
    rintro ⟨q1, q2⟩
    rcases h with h | h
    · dsimp only at q1; omega
    · exact absurd q2 (nin τ h)
  refine wp_if (fun g2 => wp_some ⟨fun q => absurd q.1 (by show ¬ (0 : Int) = 1; decide), fun q => by omega⟩) (fun g2 => ?_)
  refine wp_wf ?_
  have tt : nz (sg σ kR_isInner 0 (bz true) kR_isInner 0) = true := by rw [sg_at]; rfl
  refine wp_bd (P := fun τ => nz (τ kR_isInner 0) = true ↔ (a ≠ 0 ∧ b ≠ 0 ∧ c ≠ 0 ∧ d ≠ 0)) ?_ (fun τ _ h => wp_some ?_)
  · have at_ : ∀ {τ : SG} {x y : Int}, wp_ (bd_ (fR_meetsAt τ x y) fun σ_63 => some σ_63) (fun υ => υ kR_isInner 0 = 0) := by
      intro τ x y
      refine wp_bd (P := fun υ => υ kR_isInner 0 = 0) ?_ (fun υ _ h => wp_some h)
      unfold fR_meetsAt
      refine wp_wf (wp_wf (wp_wf (wp_some ?_)))
      rw [sg_nc (by decide), sg_nc (by decide), sg_at]; rfl
    have no : ∀ {o : Option SG}, wp_ o (fun υ => υ kR_isInner 0 = 0) → (a = 0 ∨ b = 0 ∨ c = 0 ∨ d = 0) → wp_ o (fun τ => nz (τ kR_isInner 0) = true ↔ (a ≠ 0 ∧ b ≠ 0 ∧ c ≠ 0 ∧ d ≠ 0)) := fun h e => wp_mono h (fun υ hυ => ⟨fun q => absurd q (nin υ hυ), fun q => by omega⟩)
    refine wp_if (fun e => no (wp_rd j0 (by omega) (wp_rd j0 (by omega) at_)) (Or.inl e)) (fun ea => ?_)
    refine wp_bd (P := fun τ => nz (τ kR_isInner 0) = true ↔ (a ≠ 0 ∧ b ≠ 0 ∧ c ≠ 0 ∧ d ≠ 0)) ?_ (fun τ _ h => wp_some h)
    refine wp_if (fun e => no (wp_rd j0 (by omega) (wp_rd j0 (by omega) at_)) (Or.inr (Or.inl e))) (fun eb => ?_)
    refine wp_bd (P := fun τ => nz (τ kR_isInner 0) = true ↔ (a ≠ 0 ∧ b ≠ 0 ∧ c ≠ 0 ∧ d ≠ 0)) ?_ (fun τ _ h => wp_some h)
    refine wp_if (fun e => no (wp_rd i0 (by omega) (wp_rd i0 (by omega) at_)) (Or.inr (Or.inr (Or.inl e)))) (fun ec => ?_)
    refine wp_bd (P := fun τ => nz (τ kR_isInner 0) = true ↔ (a ≠ 0 ∧ b ≠ 0 ∧ c ≠ 0 ∧ d ≠ 0)) ?_ (fun τ _ h => wp_some h)
    refine wp_if (fun e => no (wp_rd i0 (by omega) (wp_rd i0 (by omega) at_)) (Or.inr (Or.inr (Or.inr e)))) (fun ed => ?_)
    exact wp_some ⟨fun _ => ⟨ea, eb, ec, ed⟩, fun _ => tt⟩
  · dsimp only
    rw [h]
    constructor
    · rintro ⟨-, q1, q2, q3, q4⟩; omega
    · intro q; omega
def nr_ (x : Int) : Prop := -500000000 ≤ x ∧ x ≤ 500000000
/-- the coordinates of segments are near -/
def SN (σ : SG) : Prop := ∀ i, 0 ≤ i → i < σ kR_segments 0 → (-500000000 ≤ σ kR_sx i ∧ σ kR_sx i ≤ 500000000) ∧ (-500000000 ≤ σ kR_sy i ∧ σ kR_sy i ≤ 500000000) ∧ (-500000000 ≤ σ kR_ex i ∧ σ kR_ex i ≤ 500000000) ∧ (-500000000 ≤ σ kR_ey i ∧ σ kR_ey i ≤ 500000000)
/-- a hot place in whose pixel the place num / den of segment i is -/
def CX (σ : SG) (i num den p q : Int) : Prop := 0 < den ∧ (2 * p - 1) * den ≤ 2 * (σ kR_sx i * den + (σ kR_ex i - σ kR_sx i) * num) ∧ 2 * (σ kR_sx i * den + (σ kR_ex i - σ kR_sx i) * num) < (2 * p + 1) * den ∧ (2 * q - 1) * den ≤ 2 * (σ kR_sy i * den + (σ kR_ey i - σ kR_sy i) * num) ∧ 2 * (σ kR_sy i * den + (σ kR_ey i - σ kR_sy i) * num) < (2 * q + 1) * den
/-- where i crosses j -/
def nu_ (σ : SG) (i j : Int) : Int := TS σ j (σ kR_sx i) (σ kR_sy i)
def de_ (σ : SG) (i j : Int) : Int := TS σ j (σ kR_sx i) (σ kR_sy i) - TS σ j (σ kR_ex i) (σ kR_ey i)
def sd_ (σ : SG) (i j : Int) : Int := if de_ σ i j < 0 then -1 else 1
theorem near_r {a d num den r : Int} (ha : -500000000 ≤ a ∧ a ≤ 500000000) (had : -500000000 ≤ a + d ∧ a + d ≤ 500000000) (n0 : 0 ≤ num) (n1 : num ≤ den) (d0 : 0 < den) (h1 : (2 * r - 1) * den ≤ 2 * (a * den + d * num)) (h2 : 2 * (a * den + d * num) < (2 * r + 1) * den) : -500000000 ≤ r ∧ r ≤ 500000000 := by
  have e1 := Int.mul_nonneg (show 0 ≤ den - num by omega) (show 0 ≤ 500000000 - a by omega)
  have e2 := Int.mul_nonneg n0 (show 0 ≤ 500000000 - (a + d) by omega)
  have e3 := Int.mul_nonneg (show 0 ≤ den - num by omega) (show 0 ≤ a + 500000000 by omega)
  have e4 := Int.mul_nonneg n0 (show 0 ≤ a + d + 500000000 by omega)
  constructor
  · have : -1000000000 * den < (2 * r + 1) * den := by grind
    have := Int.lt_of_mul_lt_mul_right this (Int.le_of_lt d0)
    omega
  · have : (2 * r - 1) * den ≤ 1000000000 * den := by grind
    have := Int.le_of_mul_le_mul_right this d0
    omega
theorem v_addCrossing {σ : SG} {i j : Int} (hσ : II σ) (hn : SN σ) (ho : HO σ) (i0 : 0 ≤ i) (i1 : i < σ kR_segments 0) (j0 : 0 ≤ j) (j1 : j < σ kR_segments 0) (hp : PC σ i j) : wp_ (fR_addCrossing σ i j) (fun r => II r.2 ∧ FR [kR_hotX, kR_hotY, kR_hots] σ r.2 ∧ HO r.2 ∧ (r.1 = true → (∀ p q, HM σ p q → HM r.2 p q) ∧ (∀ p q, HM r.2 p q → HM σ p q ∨ (nr_ p ∧ nr_ q)) ∧ ∃ p q, HM r.2 p q ∧ CX σ i (sd_ σ i j * nu_ σ i j) (sd_ σ i j * de_ σ i j) p q)) := by
  unfold fR_addCrossing
  have bs := ii_kR_segments hσ 0
  obtain ⟨a1, a2, a3, a4⟩ := hn i i0 i1
  obtain ⟨b1, b2, b3, b4⟩ := hn j j0 j1
  rw [w32_of (x := i) (by omega) (by omega), w32_of (x := j) (by omega) (by omega)]
  have hden : fR_cross (σ kR_ex i - σ kR_sx i) (σ kR_ey i - σ kR_sy i) (σ kR_ex j - σ kR_sx j) (σ kR_ey j - σ kR_sy j) = de_ σ i j := by unfold fR_cross de_ TS oi_; grind
  have hnum : fR_cross (σ kR_sx j - σ kR_sx i) (σ kR_sy j - σ kR_sy i) (σ kR_ex j - σ kR_sx j) (σ kR_ey j - σ kR_sy j) = nu_ σ i j := by unfold fR_cross nu_ TS oi_; grind
  have bden : -4000000000000000000 ≤ de_ σ i j ∧ de_ σ i j ≤ 4000000000000000000 := by
    rw [← hden]; unfold fR_cross
    have m : ∀ {x y : Int}, -1000000000 ≤ x ∧ x ≤ 1000000000 → -1000000000 ≤ y ∧ y ≤ 1000000000 → -1000000000000000000 ≤ x * y ∧ x * y ≤ 1000000000000000000 := by
      intro x y hx hy
      have a := Int.mul_nonneg (show 0 ≤ 1000000000 - x by omega) (show 0 ≤ 1000000000 - y by omega)
      have b := Int.mul_nonneg (show 0 ≤ 1000000000 + x by omega) (show 0 ≤ 1000000000 + y by omega)
      have c := Int.mul_nonneg (show 0 ≤ 1000000000 - x by omega) (show 0 ≤ 1000000000 + y by omega)
      have d := Int.mul_nonneg (show 0 ≤ 1000000000 + x by omega) (show 0 ≤ 1000000000 - y by omega)
      constructor <;> grind
    have m1 := m (x := σ kR_ex i - σ kR_sx i) (y := σ kR_ey j - σ kR_sy j) (by omega) (by omega)
    have m2 := m (x := σ kR_ey i - σ kR_sy i) (y := σ kR_ex j - σ kR_sx j) (by omega) (by omega)
    omega
  have hcd := hp.2
  have hsgn : (0 < de_ σ i j ∧ 0 < nu_ σ i j ∧ nu_ σ i j < de_ σ i j) ∨ (de_ σ i j < 0 ∧ nu_ σ i j < 0 ∧ de_ σ i j < nu_ σ i j) := by unfold de_ nu_; omega
  refine wp_rd i0 (by omega) (wp_rd i0 (by omega) (wp_rd i0 (by omega) (wp_rd i0 (by omega) (wp_rd j0 (by omega) (wp_rd j0 (by omega) (wp_rd j0 (by omega) (wp_rd j0 (by omega) ?_)))))))
  refine wp_lt (fun den eden => ?_)
  refine wp_rd j0 (by omega) (wp_rd i0 (by omega) (wp_rd j0 (by omega) (wp_rd i0 (by omega) ?_)))
  refine wp_lt (fun num enum_ => ?_)
  rw [hden] at eden
  rw [hnum] at enum_
  have wden : w64 den = den := w64_of (by omega) (by omega)
  rw [wden]
  have en : (if den < 0 then -num else num) = sd_ σ i j * nu_ σ i j := by unfold sd_; rw [eden, enum_]; split <;> omega
  have ed : (if den < 0 then -den else den) = sd_ σ i j * de_ σ i j := by unfold sd_; rw [eden]; split <;> omega
  rw [en, ed]
  have bn : 0 < sd_ σ i j * de_ σ i j ∧ 0 ≤ sd_ σ i j * nu_ σ i j ∧ sd_ σ i j * nu_ σ i j ≤ sd_ σ i j * de_ σ i j ∧ sd_ σ i j * de_ σ i j ≤ 4000000000000000000 := by unfold sd_; split <;> omega
  generalize sd_ σ i j * nu_ σ i j = N at *
  generalize sd_ σ i j * de_ σ i j = D at *
  refine wp_rd i0 (by omega) ?_
  refine wp_bd (v_rounded (by omega) (by omega) bn.2.1 bn.2.2.1 bn.1 bn.2.2.2) ?_
  rintro p - ⟨p1, p2⟩
  refine wp_rd i0 (by omega) ?_
  refine wp_bd (v_rounded (by omega) (by omega) bn.2.1 bn.2.2.1 bn.1 bn.2.2.2) ?_
  rintro q - ⟨q1, q2⟩
  have np := near_r a1 (by omega) bn.2.1 bn.2.2.1 bn.1 p1 p2
  have nq := near_r a2 (by omega) bn.2.1 bn.2.2.1 bn.1 q1 q2
  refine wp_bd (v_addHot hσ ho (by omega) (by omega)) ?_
  rintro ⟨x, τ⟩ - ⟨h1, h2, h3, h4⟩
  refine wp_some ⟨h1, h2, h3, fun e => ?_⟩
  have h4 := h4 e
  exact ⟨fun p q h => (h4 p q).mpr (Or.inl h), fun p' q' h => ((h4 p' q').mp h).elim Or.inl (fun e => Or.inr ⟨by rw [e.1]; exact np, by rw [e.2]; exact nq⟩), p, q, (h4 p q).mpr (Or.inr ⟨rfl, rfl⟩), bn.1, p1, p2, q1, q2⟩
end SNC
