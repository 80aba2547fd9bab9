section SPL
theorem x_inl {α β : Type} {v : α} {P : α → Prop} {Q : β → Prop} (h : P v) : (∀ w, (Sum.inl v : α ⊕ β) = .inl w → P w) ∧ ∀ q, (Sum.inl v : α ⊕ β) = .inr q → Q q := ⟨fun _ e => by cases e; exact h, fun _ e => nomatch e⟩
theorem x_inr {α β : Type} {v : β} {P : α → Prop} {Q : β → Prop} (h : Q v) : (∀ w, (Sum.inr v : α ⊕ β) = .inl w → P w) ∧ ∀ q, (Sum.inr v : α ⊕ β) = .inr q → Q q := ⟨(fun _ e => by cases e), fun _ e => by cases e; exact h⟩
/-- rings and places where rings touch -/
def nd_ (R t x : Int) : Prop := (0 ≤ x ∧ x < R) ∨ (2048 ≤ x ∧ x < 2048 + t)
/-- joined ones lead upwards to a root -/
def FO (J : Int → Int) (R t p : Int) : Prop := ∃ rk : Int → Int, ∀ x, nd_ R t x → (J x = x ∧ rk x = 10000) ∨ (J x ≠ x ∧ nd_ R t (J x) ∧ 0 ≤ rk x ∧ rk x ≤ p ∧ rk x < rk (J x))
def rc_ (J : Int → Int) (R t : Int) : Nat := ct_ R.toNat (fun r => decide (J (r : Int) = r)) + ct_ t.toNat (fun q => decide (J (2048 + (q : Int)) = 2048 + q))
theorem ct_cg {f g : Nat → Bool} : ∀ {m : Nat}, (∀ j, j < m → f j = g j) → ct_ m f = ct_ m g
  | 0, _ => rfl
  | m + 1, h => by
    unfold ct_
    rw [ct_cg (m := m) (fun j hj => h j (by omega)), h m (by omega)]
theorem ct_up {f g : Nat → Bool} {z : Nat} : ∀ {m : Nat}, z < m → (∀ j, j < m → j ≠ z → f j = g j) → f z = true → g z = false → ct_ m f = ct_ m g + 1
  | 0, h, _, _, _ => absurd h (by omega)
  | m + 1, h, ho, h1, h2 => by
    unfold ct_
    by_cases q : z = m
    · subst q
      rw [ct_cg (f := f) (g := g) (fun j hj => ho j (by omega) (by omega)), if_pos h1, if_neg (by rw [h2]; decide)]
    · rw [ct_up (m := m) (by omega) (fun j hj hn => ho j (by omega) hn) h1 h2, ho m (by omega) (fun e => q e.symm)]
      omega
theorem FO_root {J : Int → Int} {R t p : Int} (h : FO J R t p) (hp : p < 10000) {x : Int} (hx : nd_ R t x) : ∃ r, nd_ R t r ∧ J r = r := by
  obtain ⟨rk, hr⟩ := h
  have key : ∀ n : Nat, ∀ x, nd_ R t x → 10000 - rk x ≤ n → ∃ r, nd_ R t r ∧ J r = r := by
    intro n
    induction n with
    | zero =>
      intro x hx hn
      rcases hr x hx with ⟨q, -⟩ | ⟨q1, q2, q3, q4, q5⟩
      · exact ⟨x, hx, q⟩
      · omega
    | succ n ih =>
      intro x hx hn
      rcases hr x hx with ⟨q, -⟩ | ⟨q1, q2, q3, q4, q5⟩
      · exact ⟨x, hx, q⟩
      · exact ih (J x) q2 (by omega)
  exact key (10000 - rk x).toNat x hx (by omega)
theorem rc_pos {J : Int → Int} {R t p : Int} (h : FO J R t p) (hp : p < 10000) {x : Int} (hx : nd_ R t x) : 1 ≤ rc_ J R t := by
  obtain ⟨r, hn, hr⟩ := FO_root h hp hx
  unfold rc_
  rcases hn with ⟨a, b⟩ | ⟨a, b⟩
  · have := ct_lt (f := fun _ => false) (g := fun r : Nat => decide (J (r : Int) = r)) (m := R.toNat) (z := r.toNat) (fun _ _ q => by cases q) (by omega) rfl (decide_eq_true (by rw [show ((r.toNat : Nat) : Int) = r by omega]; exact hr))
    omega
  · have := ct_lt (f := fun _ => false) (g := fun q : Nat => decide (J (2048 + (q : Int)) = 2048 + q)) (m := t.toNat) (z := (r - 2048).toNat) (fun _ _ q => by cases q) (by omega) rfl (decide_eq_true (by rw [show 2048 + (((r - 2048).toNat : Nat) : Int) = r by omega]; exact hr))
    omega
theorem v_root {σ : SG} {R t p k : Int} (hR : R ≤ 2048) (ht : t ≤ 4200) (hp : p < 10000) (h : FO (σ kR_joined) R t p) (hk : nd_ R t k) : wp_ (fR_root σ k) (fun r => nd_ R t r ∧ σ kR_joined r = r) := by
  unfold fR_root
  obtain ⟨rk, hr⟩ := h
  have nb : ∀ x, nd_ R t x → 0 ≤ x ∧ x < 6300 := by intro x hx; unfold nd_ at hx; omega
  refine wp_bd (P := fun r => nd_ R t r ∧ σ kR_joined r = r) ?_ (fun r _ h => wp_some h)
  refine wp_whl (fun r => nd_ R t r) (fun r => (10001 - rk r).toNat) hk ?_
  intro r hn
  have b := nb r hn
  rw [w32_of (x := r) (by omega) (by omega)]
  refine wp_rd b.1 b.2 ?_
  have hj : nd_ R t (σ kR_joined r) := by
    rcases hr r hn with ⟨q, -⟩ | ⟨q1, q2, -⟩
    · rw [q]; exact hn
    · exact q2
  have b2 := nb _ hj
  rw [w32_of (x := σ kR_joined r) (by omega) (by omega)]
  refine wp_if (fun g => ?_) (fun g => ?_)
  · refine wp_rd b.1 b.2 ?_
    rcases hr r hn with ⟨q, -⟩ | ⟨q1, q2, q3, q4, q5⟩
    · exact absurd q g
    · refine wp_il ⟨hj, ?_⟩
      rcases hr _ hj with ⟨s1, s2⟩ | ⟨s1, s2, s3, s4, s5⟩ <;> omega
  · exact wp_ir ⟨hn, by omega⟩
abbrev TL : List Nat := [kR_joined, kR_touchMany, kR_touchX, kR_touchY]
theorem v_touch {σ : SG} (hσ : II σ) (ht : σ kR_touchMany 0 ≤ 4199) : wp_ (fR_touch σ) (fun x => (x.2 = σ ∧ 0 ≤ x.1 ∧ x.1 < σ kR_touchMany 0) ∨ (II x.2 ∧ FR [kR_joined, kR_touchMany, kR_touchX, kR_touchY] σ x.2 ∧ x.1 = σ kR_touchMany 0 ∧ x.2 kR_touchMany 0 = σ kR_touchMany 0 + 1 ∧ x.2 kR_joined (2048 + σ kR_touchMany 0) = 2048 + σ kR_touchMany 0 ∧ ∀ i, i ≠ 2048 + σ kR_touchMany 0 → x.2 kR_joined i = σ kR_joined i)) := by
  unfold fR_touch
  have bt := ii_kR_touchMany hσ 0
  have bX := ii_kR_meetX hσ 0
  have bY := ii_kR_meetY hσ 0
  rw [w32_of (x := σ kR_touchMany 0) (by omega) (by omega)]
  refine wp_bx (P := fun _ => True) ?_ ?_
  · refine wp_whl (fun k => 0 ≤ k ∧ k ≤ σ kR_touchMany 0) (fun k => (σ kR_touchMany 0 - k).toNat) ⟨Int.le_refl 0, by omega⟩ ?_
    rintro k ⟨k0, k1⟩
    rw [w32_of (x := k) (by omega) (by omega)]
    refine wp_if (fun g => ?_) (fun g => ?_)
    · refine wp_rd (by omega) (by omega) ?_
      refine wp_if (fun _ => ?_) (fun _ => wp_il ⟨⟨by omega, by omega⟩, by omega⟩)
      refine wp_rd (by omega) (by omega) ?_
      refine wp_if (fun _ => ?_) (fun _ => wp_il ⟨⟨by omega, by omega⟩, by omega⟩)
      exact wp_ir (x_inr (Or.inl ⟨rfl, k0, g⟩))
    · exact wp_ir (x_inl trivial)
  intro k _
  refine wp_waI hσ b_kR_touchX (by omega) (by omega) bX (fun σ1 h1 e1 => ?_)
  have m1 : σ1 kR_touchMany 0 = σ kR_touchMany 0 := by rw [e1, sg_nc (by decide)]
  have my1 : σ1 kR_meetY 0 = σ kR_meetY 0 := by rw [e1, sg_nc (by decide)]
  rw [m1, my1, w32_of (x := σ kR_touchMany 0) (by omega) (by omega)]
  refine wp_waI h1 b_kR_touchY (by omega) (by omega) bY (fun σ2 h2 e2 => ?_)
  have m2 : σ2 kR_touchMany 0 = σ kR_touchMany 0 := by rw [e2, sg_nc (by decide)]; exact m1
  rw [m2, w32_of (x := 2048 + σ kR_touchMany 0) (by omega) (by omega)]
  refine wp_waI h2 b_kR_joined (by omega) (by omega) (by omega) (fun σ3 h3 e3 => ?_)
  have m3 : σ3 kR_touchMany 0 = σ kR_touchMany 0 := by rw [e3, sg_nc (by decide)]; exact m2
  rw [m3]
  refine wp_wfI h3 b_kR_touchMany (by omega) (fun σ4 h4 e4 => wp_some (Or.inr ⟨h4, ?_, ?_, sg_val e4, ?_, fun i hi => ?_⟩))
  · exact FR_tr (FR_tr (FR_tr (FR_le (FR_sg e1) (by decide) : FR TL σ σ1) (FR_sg e2) (by decide) (by decide) : FR TL σ σ2) (FR_sg e3) (by decide) (by decide) : FR TL σ σ3) (FR_sg e4) (by decide) (by decide)
  · show σ4 kR_touchMany 0 - 1 = _
    rw [sg_val e4]; omega
  · show σ4 kR_joined _ = _
    rw [e4, sg_nc (by decide), e3, sg_at]
  · show σ4 kR_joined i = _
    rw [e4, sg_nc (by decide), e3, sg_ni hi, e2, sg_nc (by decide), e1, sg_nc (by decide)]
abbrev PL : List Nat := [kR_joined, kR_passRing, kR_passTouch, kR_passes]
theorem v_rounds {σ : SG} {R t p ring touch : Int} (hσ : II σ) (hR : R ≤ 2048) (ht : t ≤ 4199) (hp : p ≤ 8000) (ep : σ kR_passes 0 = p) (h : FO (σ kR_joined) R t p) (r0 : 0 ≤ ring) (r1 : ring < R) (t0 : 0 ≤ touch) (t1 : touch < t) : wp_ (fR_rounds σ ring touch) (fun x => (x.2 = σ ∧ x.1 = false ∧ ∃ k, 0 ≤ k ∧ k < p ∧ σ kR_passRing k = ring ∧ σ kR_passTouch k = touch) ∨ (II x.2 ∧ FR [kR_joined, kR_passRing, kR_passTouch, kR_passes] σ x.2 ∧ x.2 kR_passes 0 = p + 1 ∧ x.2 kR_passRing p = ring ∧ x.2 kR_passTouch p = touch ∧ (∀ i, i ≠ p → x.2 kR_passRing i = σ kR_passRing i ∧ x.2 kR_passTouch i = σ kR_passTouch i) ∧ FO (x.2 kR_joined) R t (p + 1) ∧ (x.1 = false → rc_ (σ kR_joined) R t = rc_ (x.2 kR_joined) R t + 1))) := by
  unfold fR_rounds
  have bp := ii_kR_passes hσ 0
  rw [ep] at bp
  rw [ep, w32_of (x := p) (by omega) (by omega), w32_of (x := ring) (by omega) (by omega), w32_of (x := touch) (by omega) (by omega)]
  refine wp_bx (P := fun _ => True) ?_ ?_
  · refine wp_whl (fun k => 0 ≤ k ∧ k ≤ p) (fun k => (p - k).toNat) ⟨Int.le_refl 0, by omega⟩ ?_
    rintro k ⟨k0, k1⟩
    have b1 := ii_kR_passRing hσ k
    have b2 := ii_kR_passTouch hσ k
    rw [w32_of (x := k) (by omega) (by omega)]
    refine wp_if (fun g => ?_) (fun g => ?_)
    · refine wp_rd (by omega) (by omega) ?_
      rw [w32_of (x := σ kR_passRing k) (by omega) (by omega)]
      refine wp_if (fun g1 => ?_) (fun _ => wp_il ⟨⟨by omega, by omega⟩, by omega⟩)
      refine wp_rd (by omega) (by omega) ?_
      rw [w32_of (x := σ kR_passTouch k) (by omega) (by omega)]
      refine wp_if (fun g2 => ?_) (fun _ => wp_il ⟨⟨by omega, by omega⟩, by omega⟩)
      exact wp_ir (x_inr (Or.inl ⟨rfl, rfl, k, k0, g, g1, g2⟩))
    · exact wp_ir (x_inl trivial)
  intro k _
  refine wp_waI hσ b_kR_passRing (by omega) (by omega) (by omega) (fun σ1 h1 e1 => ?_)
  have p1 : σ1 kR_passes 0 = p := by rw [e1, sg_nc (by decide)]; exact ep
  rw [p1, w32_of (x := p) (by omega) (by omega)]
  refine wp_waI h1 b_kR_passTouch (by omega) (by omega) (by omega) (fun σ2 h2 e2 => ?_)
  have p2 : σ2 kR_passes 0 = p := by rw [e2, sg_nc (by decide)]; exact p1
  rw [p2]
  refine wp_wfI h2 b_kR_passes (by omega) (fun σ3 h3 e3 => ?_)
  have j3 : σ3 kR_joined = σ kR_joined := by funext i; rw [e3, sg_nc (by decide), e2, sg_nc (by decide), e1, sg_nc (by decide)]
  have h' : FO (σ3 kR_joined) R t p := by rw [j3]; exact h
  refine wp_bd (v_root hR (by omega) (by omega) h' (Or.inl ⟨r0, r1⟩)) ?_
  rintro a - ⟨an, ar⟩
  refine wp_bd (v_root hR (by omega) (by omega) h' (Or.inr ⟨by omega, by omega⟩)) ?_
  rintro b - ⟨bn, br⟩
  rw [j3] at ar br
  have ba : 0 ≤ a ∧ a < 6300 := by unfold nd_ at an; omega
  have bb : 0 ≤ b ∧ b < 6300 := by unfold nd_ at bn; omega
  rw [w32_of (x := a) (by omega) (by omega), w32_of (x := b) (by omega) (by omega)]
  refine wp_waI h3 b_kR_joined ba.1 ba.2 (by omega) (fun σ4 h4 e4 => wp_some (Or.inr ⟨h4, ?_, ?_, ?_, ?_, fun i hi => ⟨?_, ?_⟩, ?_, ?_⟩))
  · exact FR_tr (FR_tr (FR_tr (FR_le (FR_sg e1) (by decide) : FR PL σ σ1) (FR_sg e2) (by decide) (by decide) : FR PL σ σ2) (FR_sg e3) (by decide) (by decide) : FR PL σ σ3) (FR_sg e4) (by decide) (by decide)
  · show σ4 kR_passes 0 = _
    rw [e4, sg_nc (by decide), sg_val e3]
  · show σ4 kR_passRing p = _
    rw [e4, sg_nc (by decide), e3, sg_nc (by decide), e2, sg_nc (by decide), e1, sg_at]
  · show σ4 kR_passTouch p = _
    rw [e4, sg_nc (by decide), e3, sg_nc (by decide), e2, sg_at]
  · show σ4 kR_passRing i = _
    rw [e4, sg_nc (by decide), e3, sg_nc (by decide), e2, sg_nc (by decide), e1, sg_ni hi]
  · show σ4 kR_passTouch i = _
    rw [e4, sg_nc (by decide), e3, sg_nc (by decide), e2, sg_ni hi, e1, sg_nc (by decide)]
  · have jx : ∀ x, σ4 kR_joined x = if x = a then b else σ kR_joined x := by
      intro x
      rw [e4]
      by_cases q : x = a
      · rw [if_pos q, q, sg_at]
      · rw [if_neg q, sg_ni q, j3]
    show FO (σ4 kR_joined) R t (p + 1)
    obtain ⟨rk, hr⟩ := h
    by_cases hab : a = b
    · refine ⟨rk, fun x hx => ?_⟩
      have e : σ4 kR_joined x = σ kR_joined x := by
        rw [jx]; split
        · rename_i q; rw [q, ar, hab]
        · rfl
      rw [e]
      rcases hr x hx with ⟨q1, q2⟩ | ⟨q1, q2, q3, q4, q5⟩
      · exact Or.inl ⟨q1, q2⟩
      · exact Or.inr ⟨q1, q2, q3, by omega, q5⟩
    · have rb : rk b = 10000 := by
        rcases hr b bn with ⟨q1, q2⟩ | ⟨q1, -⟩
        · exact q2
        · exact absurd br q1
      refine ⟨fun x => if x = a then p + 1 else rk x, fun x hx => ?_⟩
      rw [jx]
      dsimp only
      by_cases q : x = a
      · rw [if_pos q, if_pos q, if_neg (fun e => hab e.symm), rb]
        exact Or.inr ⟨fun e => hab (by rw [← q, e]), bn, by omega, by omega, by omega⟩
      · rw [if_neg q, if_neg q]
        rcases hr x hx with ⟨q1, q2⟩ | ⟨q1, q2, q3, q4, q5⟩
        · exact Or.inl ⟨q1, q2⟩
        · refine Or.inr ⟨q1, q2, q3, by omega, ?_⟩
          split <;> omega
  · intro hne
    have hab : a ≠ b := by
      intro q
      have : decide (a = b) = true := decide_eq_true q
      rw [this] at hne; cases hne
    show rc_ (σ kR_joined) R t = rc_ (σ4 kR_joined) R t + 1
    have jx : ∀ x, σ4 kR_joined x = if x = a then b else σ kR_joined x := by
      intro x
      rw [e4]
      by_cases q : x = a
      · rw [if_pos q, q, sg_at]
      · rw [if_neg q, sg_ni q, j3]
    unfold rc_
    rcases an with ⟨a0, a1⟩ | ⟨a0, a1⟩
    · have c1 := ct_up (f := fun r : Nat => decide (σ kR_joined (r : Int) = r)) (g := fun r : Nat => decide (σ4 kR_joined (r : Int) = r)) (m := R.toNat) (z := a.toNat) (by omega) (fun j hj hn => by rw [jx, if_neg (by omega)]) (decide_eq_true (by rw [show ((a.toNat : Nat) : Int) = a by omega]; exact ar)) (decide_eq_false (by rw [show ((a.toNat : Nat) : Int) = a by omega, jx, if_pos rfl]; exact fun e => hab e.symm))
      have c2 := ct_cg (f := fun q : Nat => decide (σ kR_joined (2048 + (q : Int)) = 2048 + q)) (g := fun q : Nat => decide (σ4 kR_joined (2048 + (q : Int)) = 2048 + q)) (m := t.toNat) (fun j hj => by rw [jx, if_neg (by omega)])
      omega
    · have c1 := ct_up (f := fun q : Nat => decide (σ kR_joined (2048 + (q : Int)) = 2048 + q)) (g := fun q : Nat => decide (σ4 kR_joined (2048 + (q : Int)) = 2048 + q)) (m := t.toNat) (z := (a - 2048).toNat) (by omega) (fun j hj hn => by rw [jx, if_neg (by omega)]) (decide_eq_true (by rw [show 2048 + (((a - 2048).toNat : Nat) : Int) = a by omega]; exact ar)) (decide_eq_false (by rw [show 2048 + (((a - 2048).toNat : Nat) : Int) = a by omega, jx, if_pos rfl]; exact fun e => hab e.symm))
      have c2 := ct_cg (f := fun r : Nat => decide (σ kR_joined (r : Int) = r)) (g := fun r : Nat => decide (σ4 kR_joined (r : Int) = r)) (m := R.toNat) (fun j hj => by rw [jx, if_neg (by omega)])
      omega
/-- all that holds while places where rings touch are gathered -/
def SI (R : Int) (τ : SG) : Prop := τ kR_ringMany 0 = R ∧ FO (τ kR_joined) R (τ kR_touchMany 0) (τ kR_passes 0) ∧ τ kR_passes 0 + rc_ (τ kR_joined) R (τ kR_touchMany 0) = R + τ kR_touchMany 0 ∧ 2 * τ kR_touchMany 0 ≤ τ kR_passes 0 ∧ ∀ k, 0 ≤ k → k < τ kR_passes 0 → τ kR_passTouch k < τ kR_touchMany 0
abbrev SL : List Nat := [kR_isInner, kR_joined, kR_meetX, kR_meetY, kR_passRing, kR_passTouch, kR_passes, kR_touchMany, kR_touchX, kR_touchY]
theorem rc_new {J K : Int → Int} {R t : Int} (ht : 0 ≤ t) (hR : R ≤ 2048) (h1 : K (2048 + t) = 2048 + t) (h2 : ∀ i, i ≠ 2048 + t → K i = J i) : rc_ K R (t + 1) = rc_ J R t + 1 := by
  unfold rc_
  have e : (t + 1).toNat = t.toNat + 1 := by omega
  rw [e]
  show _ + (ct_ t.toNat _ + _) = _
  rw [ct_cg (f := fun r : Nat => decide (K (r : Int) = r)) (g := fun r : Nat => decide (J (r : Int) = r)) (fun j hj => by rw [h2 _ (by omega)]),
    ct_cg (f := fun q : Nat => decide (K (2048 + (q : Int)) = 2048 + q)) (g := fun q : Nat => decide (J (2048 + (q : Int)) = 2048 + q)) (m := t.toNat) (fun j hj => by rw [h2 _ (by omega)])]
  rw [if_pos (decide_eq_true (by rw [show ((t.toNat : Nat) : Int) = t by omega]; exact h1))]
  omega
theorem FO_new {J K : Int → Int} {R t p : Int} (hR : R ≤ 2048) (ht : 0 ≤ t) (h : FO J R t p) (h1 : K (2048 + t) = 2048 + t) (h2 : ∀ i, i ≠ 2048 + t → K i = J i) : FO K R (t + 1) p := by
  obtain ⟨rk, hr⟩ := h
  refine ⟨fun x => if x = 2048 + t then 10000 else rk x, fun x hx => ?_⟩
  dsimp only
  by_cases q : x = 2048 + t
  · rw [if_pos q, q, h1]; exact Or.inl ⟨rfl, rfl⟩
  · rw [if_neg q, h2 x q]
    have hx' : nd_ R t x := by unfold nd_ at hx ⊢; omega
    rcases hr x hx' with ⟨q1, q2⟩ | ⟨q1, q2, q3, q4, q5⟩
    · exact Or.inl ⟨q1, q2⟩
    · have : J x ≠ 2048 + t := by unfold nd_ at q2; omega
      rw [if_neg this]
      exact Or.inr ⟨q1, by unfold nd_ at q2 ⊢; omega, q3, q4, q5⟩
theorem v_isSplit {σ : SG} {from_ to_ : Int} (hσ : II σ) (f0 : 0 ≤ from_) (f1 : from_ ≤ 4200) (t0 : 0 ≤ to_) (t1 : to_ ≤ 4200) (hr : ∀ i, from_ ≤ i → i < to_ → σ kR_ringOf i < σ kR_ringMany 0) : wp_ (fR_isSplit σ from_ to_) (fun x => II x.2 ∧ FR [kR_isInner, kR_joined, kR_meetX, kR_meetY, kR_passRing, kR_passTouch, kR_passes, kR_touchMany, kR_touchX, kR_touchY] σ x.2) := by
  unfold fR_isSplit
  have bR := ii_kR_ringMany hσ 0
  refine wp_wfI hσ b_kR_touchMany (by decide) (fun σ1 h1 e1 => ?_)
  refine wp_wfI h1 b_kR_passes (by decide) (fun σ2 h2 e2 => ?_)
  have fr2 : FR SL σ σ2 := FR_tr (FR_le (FR_sg e1) (by decide) : FR SL σ σ1) (FR_sg e2) (by decide) (by decide)
  have tm2 : σ2 kR_touchMany 0 = 0 := by rw [e2, sg_nc (by decide)]; exact sg_val e1
  have pm2 : σ2 kR_passes 0 = 0 := sg_val e2
  generalize hRR : σ kR_ringMany 0 = R at *
  refine wp_bd (P := fun s => II s.2 ∧ FR SL σ s.2 ∧ s.2 kR_touchMany 0 = 0 ∧ s.2 kR_passes 0 = 0 ∧ ∀ x, 0 ≤ x → x < R → s.2 kR_joined x = x) ?_ ?_
  · refine wp_whl (fun s => 0 ≤ s.1 ∧ s.1 ≤ R ∧ II s.2 ∧ FR SL σ s.2 ∧ s.2 kR_touchMany 0 = 0 ∧ s.2 kR_passes 0 = 0 ∧ ∀ x, 0 ≤ x → x < s.1 → s.2 kR_joined x = x) (fun s => (R - s.1).toNat) ⟨Int.le_refl 0, by dsimp only; omega, h2, fr2, tm2, pm2, fun x x0 x1 => by dsimp only at x1; omega⟩ ?_
    rintro ⟨r, τ⟩ ⟨r0, r1, hτ, hf, ht, hp, hj⟩
    dsimp only at r0 r1 hτ hf ht hp hj ⊢
    have rm : τ kR_ringMany 0 = R := by rw [FR_at hf (by decide)]; exact hRR
    rw [rm, w32_of (x := r) (by omega) (by omega), w32_of (x := R) (by omega) (by omega)]
    refine wp_if (fun g => ?_) (fun g => ?_)
    · refine wp_waI hτ b_kR_joined (by omega) (by omega) (by omega) (fun υ hυ e => ?_)
      refine wp_il ⟨⟨by dsimp only; omega, by dsimp only; omega, hυ, FR_tr hf (FR_sg e) (by decide) (by decide), by show υ kR_touchMany 0 = 0; rw [e, sg_nc (by decide)]; exact ht, by show υ kR_passes 0 = 0; rw [e, sg_nc (by decide)]; exact hp, fun x x0 x1 => ?_⟩, by dsimp only; omega⟩
      dsimp only at x1 ⊢
      by_cases q : x = r
      · rw [q, e, sg_at]
      · rw [e, sg_ni q]; exact hj x x0 (by omega)
    · exact wp_ir ⟨hτ, hf, ht, hp, fun x x0 x1 => hj x x0 (by omega)⟩
  rintro ⟨r, σ3⟩ - ⟨h3, f3, t3, p3, j3⟩
  dsimp only at h3 f3 t3 p3 j3 ⊢
  have s3 : SI R σ3 := by
    refine ⟨by rw [FR_at f3 (by decide)]; exact hRR, ?_, ?_, by omega, fun k k0 k1 => by omega⟩
    · rw [t3, p3]
      exact ⟨fun _ => 10000, fun x hx => Or.inl ⟨j3 x (by unfold nd_ at hx; omega) (by unfold nd_ at hx; omega), rfl⟩⟩
    · rw [t3, p3]
      have : rc_ (σ3 kR_joined) R 0 = R.toNat := by
        unfold rc_
        have all : ∀ m : Nat, m ≤ R.toNat → ct_ m (fun r : Nat => decide (σ3 kR_joined (r : Int) = r)) = m := by
          intro m
          induction m with
          | zero => intro _; rfl
          | succ m ih =>
            intro hm
            unfold ct_
            rw [ih (by omega), if_pos (decide_eq_true (j3 m (by omega) (by omega)))]
        rw [all _ (Nat.le_refl _)]; rfl
      omega
  have bI : ∀ i, from_ ≤ i → i < to_ → 0 ≤ i ∧ i ≤ 4199 := by intro i i0 i1; omega
  refine wp_bx (P := fun s => II s.2 ∧ FR SL σ s.2) ?_ (fun s h => wp_some h)
  refine wp_whl (fun s => from_ ≤ s.1 ∧ s.1 ≤ 4200 ∧ II s.2 ∧ FR SL σ s.2 ∧ SI R s.2) (fun s => (to_ - s.1).toNat) ⟨Int.le_refl _, f1, h3, f3, s3⟩ ?_
  rintro ⟨i, τ⟩ ⟨i0, i1, hτ, hf, hS⟩
  dsimp only at i0 i1 hτ hf hS ⊢
  rw [w32_of (x := i) (by omega) (by omega), w32_of (x := to_) (by omega) (by omega)]
  refine wp_if (fun g => ?_) (fun g => wp_ir (x_inl ⟨hτ, hf⟩))
  refine wp_bx (P := fun s => II s.2 ∧ FR SL σ s.2 ∧ SI R s.2) ?_ (fun s h => wp_il ⟨⟨by dsimp only; omega, by dsimp only; omega, h⟩, by dsimp only; omega⟩)
  refine wp_whl (fun s => from_ ≤ s.1 ∧ s.1 ≤ 4200 ∧ II s.2 ∧ FR SL σ s.2 ∧ SI R s.2) (fun s => (to_ - s.1).toNat) ⟨by dsimp only; omega, by dsimp only; omega, hτ, hf, hS⟩ ?_
  rintro ⟨j, υ⟩ ⟨j0, j1, hυ, fυ, hSυ⟩
  dsimp only at j0 j1 hυ fυ hSυ ⊢
  rw [w32_of (x := j) (by omega) (by omega)]
  refine wp_if (fun gj => ?_) (fun gj => wp_ir (x_inl ⟨hυ, fυ, hSυ⟩))
  have ro : ∀ {ω : SG}, FR SL σ ω → ∀ i, ω kR_ringOf i = σ kR_ringOf i := fun f i => FR_at f (by decide) i
  have bri := ii_kR_ringOf hσ i
  have brj := ii_kR_ringOf hσ j
  have rri := hr i i0 g
  have rrj := hr j j0 gj
  refine wp_rd (by omega) (by omega) (wp_rd (by omega) (by omega) ?_)
  rw [ro fυ, ro fυ, w32_of (x := σ kR_ringOf i) (by omega) (by omega), w32_of (x := σ kR_ringOf j) (by omega) (by omega)]
  have next : ∀ ω, II ω → FR SL σ ω → SI R ω → wp_ (some (Sum.inl (j + 1, ω)) : Option ((Int × SG) ⊕ ((Int × SG) ⊕ ((Int × SG) ⊕ ((Int × SG) ⊕ (Bool × SG)))))) (fun o => (∀ s', o = .inl s' → (from_ ≤ s'.1 ∧ s'.1 ≤ 4200 ∧ II s'.2 ∧ FR SL σ s'.2 ∧ SI R s'.2) ∧ (to_ - s'.1).toNat < (to_ - j).toNat) ∧ ∀ r, o = .inr r → (∀ v, r = .inl v → II v.2 ∧ FR SL σ v.2 ∧ SI R v.2) ∧ ∀ q, r = .inr q → (∀ s', q = .inl s' → (from_ ≤ s'.1 ∧ s'.1 ≤ 4200 ∧ II s'.2 ∧ FR SL σ s'.2 ∧ SI R s'.2) ∧ (to_ - s'.1).toNat < (to_ - i).toNat) ∧ ∀ r, q = .inr r → (∀ v, r = .inl v → II v.2 ∧ FR SL σ v.2) ∧ ∀ q, r = .inr q → II q.2 ∧ FR SL σ q.2) :=
    fun ω a b c => wp_il ⟨⟨by dsimp only; omega, by dsimp only; omega, a, b, c⟩, by dsimp only; omega⟩
  refine wp_if (fun ge => next υ hυ fυ hSυ) (fun ge => ?_)
  refine wp_bd (s_R_meet hυ ⟨by omega, by omega⟩ ⟨by omega, by omega⟩) ?_
  rintro ⟨x, σ4⟩ - ⟨bx, h4, f4⟩
  dsimp only at bx h4 f4 ⊢
  have f4' : FR SL σ σ4 := FR_tr fυ f4 (by decide) (by decide)
  have c4 : ∀ {c : Nat}, ([kR_isInner, kR_meetX, kR_meetY] : List Nat).contains c = false → ∀ i, σ4 c i = υ c i := fun h i => FR_at f4 h i
  have j4 : σ4 kR_joined = υ kR_joined := f4 kR_joined (by decide)
  have S4 : SI R σ4 := by
    obtain ⟨a1, a2, a3, a4, a5⟩ := hSυ
    refine ⟨by rw [c4 (by decide)]; exact a1, ?_, ?_, ?_, ?_⟩
    · rw [j4, c4 (c := kR_touchMany) (by decide), c4 (c := kR_passes) (by decide)]; exact a2
    · rw [j4, c4 (c := kR_touchMany) (by decide), c4 (c := kR_passes) (by decide)]; exact a3
    · rw [c4 (c := kR_touchMany) (by decide), c4 (c := kR_passes) (by decide)]; exact a4
    · intro k k0 k1
      rw [c4 (c := kR_passes) (by decide)] at k1
      rw [c4 (c := kR_touchMany) (by decide), c4 (c := kR_passTouch) (by decide)]; exact a5 k k0 k1
  rw [w32_of (x := x) (by omega) (by omega)]
  refine wp_if (fun gx => next σ4 h4 f4' S4) (fun gx => ?_)
  obtain ⟨a1, a2, a3, a4, a5⟩ := S4
  have bt4 := ii_kR_touchMany h4 0
  have bp4 := ii_kR_passes h4 0
  have rp := rc_pos a2 (by omega) (x := σ kR_ringOf i) (Or.inl ⟨bri.1, rri⟩)
  have tlt : σ4 kR_touchMany 0 ≤ R - 1 := by omega
  have plt : σ4 kR_passes 0 ≤ 2 * R := by omega
  -- the two passings of a touch
  have two : ∀ σ5, II σ5 → FR SL σ σ5 → ∀ v t p, σ5 kR_touchMany 0 = t → σ5 kR_passes 0 = p → σ5 kR_ringMany 0 = R → 0 ≤ v → v < t → t ≤ 2048 → 0 ≤ p → p ≤ 4096 → FO (σ5 kR_joined) R t p → p + rc_ (σ5 kR_joined) R t = R + t → (∀ k, 0 ≤ k → k < p → σ5 kR_passTouch k < t) → (2 * t ≤ p ∨ (2 * t ≤ p + 2 ∧ ∀ k, 0 ≤ k → k < p → σ5 kR_passTouch k ≠ v)) →
      wp_ (rd_ σ5 kR_ringOf 4200 (w32 i) fun x_66 => bd_ (fR_rounds σ5 x_66 v) fun (x_70, σ_69) => rd_ σ_69 kR_ringOf 4200 (w32 j) fun x_81 => bd_ (fR_rounds σ_69 x_81 v) fun (x_85, σ_84) => if x_85 = true then (some (.inr (.inr (.inr (.inr (true, σ_84))))) : Option ((Int × SG) ⊕ ((Int × SG) ⊕ ((Int × SG) ⊕ ((Int × SG) ⊕ (Bool × SG)))))) else if x_70 = true then some (.inr (.inr (.inr (.inr (true, σ_84))))) else some (.inl ((j + 1), σ_84))) (fun o => (∀ s', o = .inl s' → (from_ ≤ s'.1 ∧ s'.1 ≤ 4200 ∧ II s'.2 ∧ FR SL σ s'.2 ∧ SI R s'.2) ∧ (to_ - s'.1).toNat < (to_ - j).toNat) ∧ ∀ r, o = .inr r → (∀ v, r = .inl v → II v.2 ∧ FR SL σ v.2 ∧ SI R v.2) ∧ ∀ q, r = .inr q → (∀ s', q = .inl s' → (from_ ≤ s'.1 ∧ s'.1 ≤ 4200 ∧ II s'.2 ∧ FR SL σ s'.2 ∧ SI R s'.2) ∧ (to_ - s'.1).toNat < (to_ - i).toNat) ∧ ∀ r, q = .inr r → (∀ v, r = .inl v → II v.2 ∧ FR SL σ v.2) ∧ ∀ q, r = .inr q → II q.2 ∧ FR SL σ q.2) := by
    intro σ5 h5 f5 v t p et ep er v0 v1 tb p0 pb hFO hsum hpt hd
    rw [w32_of (x := i) (by omega) (by omega), w32_of (x := j) (by omega) (by omega)]
    refine wp_rd (by omega) (by omega) ?_
    rw [ro f5]
    refine wp_bd (v_rounds h5 (by omega) (by omega) (by omega) ep hFO bri.1 rri v0 v1) ?_
    rintro ⟨y, σ6⟩ - hy
    dsimp only at hy ⊢
    -- behind the first
    have one : II σ6 ∧ FR SL σ σ6 ∧ σ6 kR_touchMany 0 = t ∧ σ6 kR_ringMany 0 = R ∧ ∃ p', σ6 kR_passes 0 = p' ∧ p ≤ p' ∧ p' ≤ p + 1 ∧ FO (σ6 kR_joined) R t p' ∧ (y = false → p' + rc_ (σ6 kR_joined) R t = R + t) ∧ (∀ k, 0 ≤ k → k < p' → σ6 kR_passTouch k < t) ∧ (2 * t ≤ p' ∨ (2 * t ≤ p' + 1 ∧ ∀ k, 0 ≤ k → k < p' → ¬ (σ6 kR_passRing k = σ kR_ringOf j ∧ σ6 kR_passTouch k = v))) := by
      rcases hy with ⟨q1, q2, k, k0, k1, k2, k3⟩ | ⟨q1, q2, q3, q4, q5, q6, q7, q8⟩
      · subst q1
        refine ⟨h5, f5, et, er, p, ep, Int.le_refl _, by omega, hFO, fun _ => hsum, hpt, ?_⟩
        rcases hd with d | ⟨d1, d2⟩
        · exact Or.inl d
        · exact absurd k3 (d2 k k0 k1)
      · refine ⟨q1, FR_tr f5 q2 (by decide) (by decide), by rw [FR_at q2 (by decide)]; exact et, by rw [FR_at q2 (by decide)]; exact er, p + 1, q3, by omega, Int.le_refl _, q7, fun e => ?_, fun k k0 k1 => ?_, ?_⟩
        · have := q8 e; omega
        · by_cases c : k = p
          · rw [c, q5]; exact v1
          · rw [(q6 k c).2]; exact hpt k k0 (by omega)
        · rcases hd with d | ⟨d1, d2⟩
          · exact Or.inl (by omega)
          · refine Or.inr ⟨by omega, fun k k0 k1 c => ?_⟩
            by_cases e : k = p
            · rw [e, q4] at c; exact ge c.1
            · rw [(q6 k e).2] at c; exact d2 k k0 (by omega) c.2
    obtain ⟨h6, f6, et6, er6, p', ep6, pl, pu, FO6, sum6, pt6, d6⟩ := one
    refine wp_rd (by omega) (by omega) ?_
    rw [ro f6]
    refine wp_bd (v_rounds h6 (by omega) (by omega) (by omega) ep6 FO6 brj.1 rrj v0 v1) ?_
    rintro ⟨z, σ7⟩ - hz
    dsimp only at hz ⊢
    have two : II σ7 ∧ FR SL σ σ7 ∧ (y = false → z = false → SI R σ7) := by
      rcases hz with ⟨q1, q2, k, k0, k1, k2, k3⟩ | ⟨q1, q2, q3, q4, q5, q6, q7, q8⟩
      · subst q1
        refine ⟨h6, f6, fun ey _ => ⟨er6, by rw [et6, ep6]; exact FO6, by rw [et6, ep6]; exact sum6 ey, ?_, fun k k0 k1 => by rw [et6]; exact pt6 k k0 (by omega)⟩⟩
        rw [et6, ep6]
        rcases d6 with d | ⟨d1, d2⟩
        · exact d
        · exact absurd ⟨k2, k3⟩ (d2 k k0 k1)
      · have t7 : σ7 kR_touchMany 0 = t := by rw [FR_at q2 (by decide)]; exact et6
        refine ⟨q1, FR_tr f6 q2 (by decide) (by decide), fun ey ez => ⟨by rw [FR_at q2 (by decide)]; exact er6, by rw [t7, q3]; exact q7, ?_, ?_, fun k k0 k1 => ?_⟩⟩
        · rw [t7, q3]
          have a := sum6 ey
          have b := q8 ez
          omega
        · rw [t7, q3]
          rcases d6 with d | ⟨d1, d2⟩ <;> omega
        · rw [t7]
          rw [q3] at k1
          by_cases c : k = p'
          · rw [c, q5]; exact v1
          · rw [(q6 k c).2]; exact pt6 k k0 (by omega)
    obtain ⟨h7, f7, s7⟩ := two
    refine wp_if (fun gz => wp_ir (x_inr (x_inr (x_inr ⟨h7, f7⟩)))) (fun gz => ?_)
    refine wp_if (fun gy => wp_ir (x_inr (x_inr (x_inr ⟨h7, f7⟩)))) (fun gy => ?_)
    exact next σ7 h7 f7 (s7 (Bool.eq_false_iff.mpr gy) (Bool.eq_false_iff.mpr gz))
  refine wp_bd (v_touch h4 (by omega)) ?_
  rintro ⟨v, σ5⟩ - hv
  dsimp only at hv ⊢
  have w1 := two σ5
  rw [w32_of (x := i) (by omega) (by omega), w32_of (x := j) (by omega) (by omega)] at w1
  rcases hv with ⟨q1, q2, q3⟩ | ⟨q1, q2, q3, q4, q5, q6⟩
  · subst q1
    exact w1 h4 f4' v _ _ rfl rfl a1 q2 q3 (by omega) bp4.1 (by omega) a2 a3 a5 (Or.inl a4)
  · have pe : σ5 kR_passes 0 = σ4 kR_passes 0 := FR_at q2 (by decide) 0
    have pt : ∀ k, σ5 kR_passTouch k = σ4 kR_passTouch k := fun k => FR_at q2 (by decide) k
    refine w1 q1 (FR_tr f4' q2 (by decide) (by decide)) v _ _ q4 pe (by rw [FR_at q2 (by decide)]; exact a1) (by omega) (by omega) (by omega) bp4.1 (by omega) (FO_new (by omega) bt4.1 a2 q5 q6) ?_ ?_ (Or.inr ⟨by omega, ?_⟩)
    · have := rc_new (R := R) bt4.1 (by omega) q5 q6
      omega
    · intro k k0 k1
      rw [pt]; have := a5 k k0 k1; omega
    · intro k k0 k1
      rw [pt, q3]; have := a5 k k0 k1; omega
end SPL
