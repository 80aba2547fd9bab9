section SNE
def lk_ (n d : Rat) (o : Bool) (t : Rat) : Prop := if o = true then n < t * d else n ≤ t * d
def hk_ (n d : Rat) (o : Bool) (t : Rat) : Prop := if o = true then t * d < n else t * d ≤ n
theorem mul_lt {x y c : Rat} (hc : 0 < c) (h : x < y) : x * c < y * c := by have := Rat.mul_pos (show 0 < y - x by grind) hc; grind
theorem mul_le {x y c : Rat} (hc : 0 < c) (h : x ≤ y) : x * c ≤ y * c := by have := Rat.mul_nonneg (show 0 ≤ y - x by grind) (Rat.le_of_lt hc); grind
theorem lt_of_mul {x y c : Rat} (hc : 0 < c) (h : x * c < y * c) : x < y := by
  rcases gm_tri x y with q | q | q
  · exact q
  · rw [q] at h; grind
  · have := mul_lt hc q; grind
theorem le_of_mul {x y c : Rat} (hc : 0 < c) (h : x * c ≤ y * c) : x ≤ y := by
  rcases gm_tri x y with q | q | q
  · grind
  · grind
  · have := mul_lt hc q; grind
theorem lk_and {n d a e : Rat} {o p : Bool} (hd : 0 < d) (he : 0 < e) (t : Rat) : (n * e < a * d → (lk_ n d o t ∧ lk_ a e p t ↔ lk_ a e p t)) ∧ (a * d = n * e → (lk_ n d o t ∧ lk_ a e p t ↔ lk_ n d (o || p) t)) ∧ (a * d < n * e → (lk_ n d o t ∧ lk_ a e p t ↔ lk_ n d o t)) := by
  unfold lk_
  refine ⟨fun h => ⟨fun q => q.2, fun q => ⟨?_, q⟩⟩, fun h => ?_, fun h => ⟨fun q => q.1, fun q => ⟨q, ?_⟩⟩⟩
  · have hle : a ≤ t * e := by cases p <;> simp at q <;> grind
    have h1 : a * d ≤ t * e * d := mul_le hd hle
    have h2 : n * e < t * d * e := by grind
    have h3 := lt_of_mul he h2
    cases o <;> simp <;> grind
  · have e1 : ∀ (x : Rat), (a < t * e ↔ n < t * d) ∧ (a ≤ t * e ↔ n ≤ t * d) := by
      intro _
      constructor
      · constructor
        · intro q; exact lt_of_mul he (by have := mul_lt hd q; grind)
        · intro q; exact lt_of_mul hd (by have := mul_lt he q; grind)
      · constructor
        · intro q; exact le_of_mul he (by have := mul_le hd q; grind)
        · intro q; exact le_of_mul hd (by have := mul_le he q; grind)
    have e2 := e1 0
    cases o <;> cases p <;> simp [e2] <;> grind
  · have hle : n ≤ t * d := by cases o <;> simp at q <;> grind
    have h1 : n * e ≤ t * d * e := mul_le he hle
    have h2 : a * d < t * e * d := by grind
    have h3 := lt_of_mul hd h2
    cases p <;> simp <;> grind
theorem hk_and {n d a e : Rat} {o p : Bool} (hd : 0 < d) (he : 0 < e) (t : Rat) : (a * d < n * e → (hk_ n d o t ∧ hk_ a e p t ↔ hk_ a e p t)) ∧ (a * d = n * e → (hk_ n d o t ∧ hk_ a e p t ↔ hk_ n d (o || p) t)) ∧ (n * e < a * d → (hk_ n d o t ∧ hk_ a e p t ↔ hk_ n d o t)) := by
  have neg : ∀ (n d : Rat) (o : Bool) (t : Rat), hk_ n d o t ↔ lk_ (-n) d o (-t) := by
    intro n d o t
    unfold hk_ lk_
    cases o <;> simp <;> constructor <;> intro h <;> grind
  have h := lk_and (n := -n) (d := d) (a := -a) (e := e) (o := o) (p := p) hd he (-t)
  simp only [neg]
  exact ⟨fun q => h.1 (by grind), fun q => h.2.1 (by grind), fun q => h.2.2 (by grind)⟩
/-- whether anything is left -/
theorem lh_ne {n d m e : Rat} {o p : Bool} (hd : 0 < d) (he : 0 < e) : (∃ t, lk_ n d o t ∧ hk_ m e p t) ↔ (n * e < m * d ∨ (n * e = m * d ∧ o = false ∧ p = false)) := by
  unfold lk_ hk_
  have i1 := Rat.inv_mul_cancel d (by grind)
  have i2 := Rat.inv_mul_cancel e (by grind)
  constructor
  · rintro ⟨t, h1, h2⟩
    have l1 : n ≤ t * d := by cases o <;> simp at h1 <;> grind
    have l2 : t * e ≤ m := by cases p <;> simp at h2 <;> grind
    have k1 := mul_le he l1
    have k2 := mul_le hd l2
    rcases gm_tri (n * e) (m * d) with q | q | q
    · exact Or.inl q
    · refine Or.inr ⟨q, ?_, ?_⟩
      · cases o
        · rfl
        · exfalso; simp at h1; have := mul_lt he h1; grind
      · cases p
        · rfl
        · exfalso; simp at h2; have := mul_lt hd h2; grind
    · exfalso; grind
  · rintro (h | ⟨h, ho, hp⟩)
    · refine ⟨(n * d⁻¹ + m * e⁻¹) * (1 / 2), ?_⟩
      have pd := Rat.inv_pos.mpr hd
      have pe := Rat.inv_pos.mpr he
      have key : n * d⁻¹ < m * e⁻¹ := by
        have a := mul_lt (Rat.mul_pos pd pe) h
        have b1 : n * e * (d⁻¹ * e⁻¹) = n * d⁻¹ := by grind
        have b2 : m * d * (d⁻¹ * e⁻¹) = m * e⁻¹ := by grind
        rw [b1, b2] at a; exact a
      have c1 : n < (n * d⁻¹ + m * e⁻¹) * (1 / 2) * d := by
        have q := mul_lt hd (show n * d⁻¹ < (n * d⁻¹ + m * e⁻¹) * (1 / 2) by grind)
        have z : n * d⁻¹ * d = n := by rw [Rat.mul_assoc, i1, Rat.mul_one]
        rw [z] at q; exact q
      have c2 : (n * d⁻¹ + m * e⁻¹) * (1 / 2) * e < m := by
        have q := mul_lt he (show (n * d⁻¹ + m * e⁻¹) * (1 / 2) < m * e⁻¹ by grind)
        have z : m * e⁻¹ * e = m := by rw [Rat.mul_assoc, i2, Rat.mul_one]
        rw [z] at q; exact q
      cases o <;> cases p <;> simp <;> grind
    · refine ⟨n * d⁻¹, ?_⟩
      subst ho; subst hp
      have a : n * d⁻¹ * d = n := by grind
      have b : n * d⁻¹ * e = m := by
        have : d⁻¹ * (n * e) = d⁻¹ * (m * d) := by rw [h]
        grind
      simp
      rw [a, b]; grind
abbrev CL : List Nat := [kR_highDen, kR_highNum, kR_highOpen, kR_lowDen, kR_lowNum, kR_lowOpen]
/-- the part of the way that is left -/
def iv_ (σ : SG) (t : Rat) : Prop := lk_ (σ kR_lowNum 0 : Int) (σ kR_lowDen 0 : Int) (nz (σ kR_lowOpen 0)) t ∧ hk_ (σ kR_highNum 0 : Int) (σ kR_highDen 0 : Int) (nz (σ kR_highOpen 0)) t
def RB (σ : SG) : Prop := (-2000000001 ≤ σ kR_lowNum 0 ∧ σ kR_lowNum 0 ≤ 2000000001) ∧ (1 ≤ σ kR_lowDen 0 ∧ σ kR_lowDen 0 ≤ 2000000000) ∧ (-2000000001 ≤ σ kR_highNum 0 ∧ σ kR_highNum 0 ≤ 2000000001) ∧ (1 ≤ σ kR_highDen 0 ∧ σ kR_highDen 0 ≤ 2000000000)
def ct_r (from_ d low high : Int) (t : Rat) : Prop := (low : Rat) ≤ (from_ : Rat) + t * (d : Rat) ∧ (from_ : Rat) + t * (d : Rat) < (high : Rat)
theorem mul_bd2 {x y : Int} (hx : -2000000001 ≤ x ∧ x ≤ 2000000001) (hy : 0 ≤ y ∧ y ≤ 2000000000) : -4000000002000000000 ≤ x * y ∧ x * y ≤ 4000000002000000000 := by
  have a := Int.mul_nonneg (show 0 ≤ 2000000001 - x by omega) hy.1
  have c := Int.mul_nonneg (show 0 ≤ x + 2000000001 by omega) hy.1
  constructor <;> grind
theorem c_lt {a b c d : Int} : (a : Rat) * (b : Rat) < (c : Rat) * (d : Rat) ↔ a * b < c * d := by rw [← Rat.intCast_mul, ← Rat.intCast_mul]; exact Rat.intCast_lt_intCast
theorem c_eq {a b c d : Int} : (a : Rat) * (b : Rat) = (c : Rat) * (d : Rat) ↔ a * b = c * d := by rw [← Rat.intCast_mul, ← Rat.intCast_mul]; exact Rat.intCast_inj
theorem c_pos {a : Int} (h : 0 < a) : (0 : Rat) < (a : Rat) := by have := Rat.intCast_lt_intCast.mpr h; exact this
theorem c_sub (a b : Int) : ((a - b : Int) : Rat) = (a : Rat) - (b : Rat) := by rw [Int.sub_eq_add_neg, Rat.intCast_add, Rat.intCast_neg]; grind
theorem v_cuts {σ : SG} {from_ d low high : Int} (hσ : II σ) (hb : RB σ) (hf : -1000000000 ≤ from_ ∧ from_ ≤ 1000000000) (hd : -2000000000 ≤ d ∧ d ≤ 2000000000) (hl : -1000000001 ≤ low ∧ low ≤ 1000000001) (hh : -1000000001 ≤ high ∧ high ≤ 1000000001) : wp_ (fR_cuts σ from_ d low high) (fun r => II r.2 ∧ FR [kR_highDen, kR_highNum, kR_highOpen, kR_lowDen, kR_lowNum, kR_lowOpen] σ r.2 ∧ RB r.2 ∧ (r.1 = true → ∀ t, iv_ r.2 t ↔ iv_ σ t ∧ ct_r from_ d low high t) ∧ (r.1 = false → ∀ t, iv_ σ t → ¬ ct_r from_ d low high t) ∧ (r.1 = true → (∃ t, iv_ σ t) → ∃ t, iv_ r.2 t)) := by
  unfold fR_cuts
  have wd : w64 d = d := w64_of (by omega) (by omega)
  rw [wd, w64_of (x := low) (by omega) (by omega), w64_of (x := high) (by omega) (by omega), w64_of (x := from_) (by omega) (by omega)]
  obtain ⟨b1, b2, b3, b4⟩ := hb
  refine wp_if (fun g => ?_) (fun g => ?_)
  · have ct : ∀ t, ct_r from_ d low high t ↔ (low ≤ from_ ∧ from_ < high) := by
      intro t
      unfold ct_r
      have e : (from_ : Rat) + t * (d : Rat) = (from_ : Rat) := by rw [g]; show (from_ : Rat) + t * ((0 : Int) : Rat) = from_; have : ((0 : Int) : Rat) = 0 := rfl; rw [this]; grind
      rw [e, Rat.intCast_le_intCast, Rat.intCast_lt_intCast]
    refine wp_some ⟨hσ, FR_refl _ _, ⟨b1, b2, b3, b4⟩, fun e t => ?_, fun e t _ q => ?_, fun _ h => h⟩
    · rw [ct]; exact ⟨fun h => ⟨h, of_decide_eq_true e⟩, fun h => h.1⟩
    · rw [ct] at q; exact of_decide_eq_false e q
  generalize hden : (if d < 0 then -d else d) = den
  have bden : 1 ≤ den ∧ den ≤ 2000000000 := by rw [← hden]; split <;> omega
  refine wp_lt (fun a ea => wp_lt (fun b eb => ?_))
  have ba : -2000000001 ≤ a ∧ a ≤ 2000000001 := by rw [ea]; split <;> omega
  have bb : -2000000001 ≤ b ∧ b ≤ 2000000001 := by rw [eb]; split <;> omega
  generalize hop : decide (d < 0) = op
  have hCT : ∀ t, ct_r from_ d low high t ↔ lk_ (a : Int) (den : Int) op t ∧ hk_ (b : Int) (den : Int) (!op) t := by
    intro t
    unfold ct_r lk_ hk_
    rcases Int.lt_trichotomy d 0 with q | q | q
    · have o1 : op = true := by rw [← hop]; exact decide_eq_true q
      have d1 : den = -d := by rw [← hden, if_pos q]
      have a1 : a = from_ - high := by rw [ea, if_neg (by omega)]
      have b1 : b = from_ - low := by rw [eb, if_neg (by omega)]
      rw [o1, d1, a1, b1, Rat.intCast_neg, c_sub, c_sub]
      simp
      constructor <;> intro h <;> constructor <;> grind
    · exact absurd q g
    · have o1 : op = false := by rw [← hop]; exact decide_eq_false (by omega)
      have d1 : den = d := by rw [← hden, if_neg (by omega)]
      have a1 : a = low - from_ := by rw [ea, if_pos q]
      have b1 : b = high - from_ := by rw [eb, if_pos q]
      rw [o1, d1, a1, b1, c_sub, c_sub]
      simp
      constructor <;> intro h <;> constructor <;> grind
  have pden : (0 : Rat) < (den : Rat) := c_pos (by omega)
  refine wp_lt (fun c ec => ?_)
  have m1 := mul_bd2 ba (y := σ kR_lowDen 0) (by omega)
  have m2 := mul_bd2 b1 (y := den) (by omega)
  have wc : w64 c = c := w64_of (by omega) (by omega)
  rw [wc]
  -- the lower bound
  refine wp_bd (P := fun τ => II τ ∧ FR CL σ τ ∧ RB τ ∧ τ kR_highNum 0 = σ kR_highNum 0 ∧ τ kR_highDen 0 = σ kR_highDen 0 ∧ τ kR_highOpen 0 = σ kR_highOpen 0 ∧ ∀ t, lk_ (τ kR_lowNum 0 : Int) (τ kR_lowDen 0 : Int) (nz (τ kR_lowOpen 0)) t ↔ lk_ (σ kR_lowNum 0 : Int) (σ kR_lowDen 0 : Int) (nz (σ kR_lowOpen 0)) t ∧ lk_ (a : Int) (den : Int) op t) ?_ ?_
  · have pld : (0 : Rat) < ((σ kR_lowDen 0 : Int) : Rat) := c_pos (by omega)
    have L := fun t => lk_and (n := ((σ kR_lowNum 0 : Int) : Rat)) (d := ((σ kR_lowDen 0 : Int) : Rat)) (a := (a : Rat)) (e := (den : Rat)) (o := nz (σ kR_lowOpen 0)) (p := op) pld pden t
    refine wp_if (fun gc => ?_) (fun gc => ?_)
    · refine wp_wfI hσ b_kR_lowNum (by omega) (fun σ1 h1 e1 => ?_)
      refine wp_wfI h1 b_kR_lowDen (by omega) (fun σ2 h2 e2 => ?_)
      refine wp_wfI h2 b_kR_lowOpen (bz_bd _) (fun σ3 h3 e3 => wp_some ?_)
      have v1 : σ3 kR_lowNum 0 = a := by rw [e3, sg_nc (by decide), e2, sg_nc (by decide), e1, sg_at]
      have v2 : σ3 kR_lowDen 0 = den := by rw [e3, sg_nc (by decide), e2, sg_at]
      have v3 : nz (σ3 kR_lowOpen 0) = op := by rw [e3, sg_at, nz_bz]
      have u1 : σ3 kR_highNum 0 = σ kR_highNum 0 := by rw [e3, sg_nc (by decide), e2, sg_nc (by decide), e1, sg_nc (by decide)]
      have u2 : σ3 kR_highDen 0 = σ kR_highDen 0 := by rw [e3, sg_nc (by decide), e2, sg_nc (by decide), e1, sg_nc (by decide)]
      have u3 : σ3 kR_highOpen 0 = σ kR_highOpen 0 := by rw [e3, sg_nc (by decide), e2, sg_nc (by decide), e1, sg_nc (by decide)]
      refine ⟨h3, FR_tr (FR_tr (FR_le (FR_sg e1) (by decide) : FR CL σ σ1) (FR_sg e2) (by decide) (by decide) : FR CL σ σ2) (FR_sg e3) (by decide) (by decide), ⟨by omega, by omega, by omega, by omega⟩, u1, u2, u3, fun t => ?_⟩
      rw [v1, v2, v3]
      exact ((L t).1 (c_lt.mpr (by omega))).symm
    · refine wp_bd (P := fun τ => II τ ∧ FR CL σ τ ∧ RB τ ∧ τ kR_highNum 0 = σ kR_highNum 0 ∧ τ kR_highDen 0 = σ kR_highDen 0 ∧ τ kR_highOpen 0 = σ kR_highOpen 0 ∧ ∀ t, lk_ (τ kR_lowNum 0 : Int) (τ kR_lowDen 0 : Int) (nz (τ kR_lowOpen 0)) t ↔ lk_ (σ kR_lowNum 0 : Int) (σ kR_lowDen 0 : Int) (nz (σ kR_lowOpen 0)) t ∧ lk_ (a : Int) (den : Int) op t) ?_ (fun _ _ h => wp_some h)
      refine wp_if (fun gz => ?_) (fun gz => ?_)
      · refine wp_wfI hσ b_kR_lowOpen (bz_bd _) (fun σ1 h1 e1 => wp_some ?_)
        have v1 : σ1 kR_lowNum 0 = σ kR_lowNum 0 := by rw [e1, sg_nc (by decide)]
        have v2 : σ1 kR_lowDen 0 = σ kR_lowDen 0 := by rw [e1, sg_nc (by decide)]
        have v3 : nz (σ1 kR_lowOpen 0) = (nz (σ kR_lowOpen 0) || op) := by
          rw [e1, sg_at, nz_bz]
          cases nz (σ kR_lowOpen 0) <;> cases op <;> rfl
        have u1 : σ1 kR_highNum 0 = σ kR_highNum 0 := by rw [e1, sg_nc (by decide)]
        have u2 : σ1 kR_highDen 0 = σ kR_highDen 0 := by rw [e1, sg_nc (by decide)]
        have u3 : σ1 kR_highOpen 0 = σ kR_highOpen 0 := by rw [e1, sg_nc (by decide)]
        refine ⟨h1, FR_le (FR_sg e1) (by decide), ⟨by omega, by omega, by omega, by omega⟩, u1, u2, u3, fun t => ?_⟩
        rw [v1, v2, v3]
        exact ((L t).2.1 (c_eq.mpr (by omega))).symm
      · refine wp_some ⟨hσ, FR_refl _ _, ⟨b1, b2, b3, b4⟩, rfl, rfl, rfl, fun t => ?_⟩
        exact ((L t).2.2 (c_lt.mpr (by omega))).symm
  rintro τ - ⟨hτ, fτ, rτ, u1, u2, u3, hL⟩
  rw [u1, u2]
  refine wp_lt (fun c2 ec2 => ?_)
  have m3 := mul_bd2 bb (y := σ kR_highDen 0) (by omega)
  have m4 := mul_bd2 b3 (y := den) (by omega)
  have wc2 : w64 c2 = c2 := w64_of (by omega) (by omega)
  rw [wc2]
  obtain ⟨r1, r2, r3, r4⟩ := rτ
  -- the upper bound
  refine wp_bd (P := fun υ => II υ ∧ FR CL σ υ ∧ RB υ ∧ ∀ t, iv_ υ t ↔ iv_ σ t ∧ ct_r from_ d low high t) ?_ ?_
  · have phd : (0 : Rat) < ((σ kR_highDen 0 : Int) : Rat) := c_pos (by omega)
    have H := fun t => hk_and (n := ((σ kR_highNum 0 : Int) : Rat)) (d := ((σ kR_highDen 0 : Int) : Rat)) (a := (b : Rat)) (e := (den : Rat)) (o := nz (σ kR_highOpen 0)) (p := !op) phd pden t
    have fin : ∀ υ : SG, υ kR_lowNum 0 = τ kR_lowNum 0 → υ kR_lowDen 0 = τ kR_lowDen 0 → υ kR_lowOpen 0 = τ kR_lowOpen 0 → (∀ t, hk_ (υ kR_highNum 0 : Int) (υ kR_highDen 0 : Int) (nz (υ kR_highOpen 0)) t ↔ hk_ (σ kR_highNum 0 : Int) (σ kR_highDen 0 : Int) (nz (σ kR_highOpen 0)) t ∧ hk_ (b : Int) (den : Int) (!op) t) → ∀ t, iv_ υ t ↔ iv_ σ t ∧ ct_r from_ d low high t := by
      intro υ x1 x2 x3 x4 t
      unfold iv_
      rw [x1, x2, x3, x4, hL, hCT]
      exact ⟨fun h => ⟨⟨h.1.1, h.2.1⟩, h.1.2, h.2.2⟩, fun h => ⟨⟨h.1.1, h.2.1⟩, h.1.2, h.2.2⟩⟩
    have wop : (¬ (op = true)) ↔ (!op) = true := by cases op <;> simp
    refine wp_if (fun gc => ?_) (fun gc => ?_)
    · refine wp_wfI hτ b_kR_highNum (by omega) (fun σ1 h1 e1 => ?_)
      refine wp_wfI h1 b_kR_highDen (by omega) (fun σ2 h2 e2 => ?_)
      refine wp_wfI h2 b_kR_highOpen (bz_bd _) (fun σ3 h3 e3 => wp_some ?_)
      have v1 : σ3 kR_highNum 0 = b := by rw [e3, sg_nc (by decide), e2, sg_nc (by decide), e1, sg_at]
      have v2 : σ3 kR_highDen 0 = den := by rw [e3, sg_nc (by decide), e2, sg_at]
      have v3 : nz (σ3 kR_highOpen 0) = !op := by rw [e3, sg_at, nz_bz]; cases op <;> rfl
      have y1 : σ3 kR_lowNum 0 = τ kR_lowNum 0 := by rw [e3, sg_nc (by decide), e2, sg_nc (by decide), e1, sg_nc (by decide)]
      have y2 : σ3 kR_lowDen 0 = τ kR_lowDen 0 := by rw [e3, sg_nc (by decide), e2, sg_nc (by decide), e1, sg_nc (by decide)]
      have y3 : σ3 kR_lowOpen 0 = τ kR_lowOpen 0 := by rw [e3, sg_nc (by decide), e2, sg_nc (by decide), e1, sg_nc (by decide)]
      refine ⟨h3, FR_tr (FR_tr (FR_tr fτ (FR_sg e1) (by decide) (by decide) : FR CL σ σ1) (FR_sg e2) (by decide) (by decide) : FR CL σ σ2) (FR_sg e3) (by decide) (by decide), ⟨by omega, by omega, by omega, by omega⟩, fin σ3 y1 y2 y3 (fun t => ?_)⟩
      rw [v1, v2, v3]
      exact ((H t).1 (c_lt.mpr (by omega))).symm
    · refine wp_bd (P := fun υ => II υ ∧ FR CL σ υ ∧ RB υ ∧ ∀ t, iv_ υ t ↔ iv_ σ t ∧ ct_r from_ d low high t) ?_ (fun _ _ h => wp_some h)
      refine wp_if (fun gz => ?_) (fun gz => ?_)
      · rw [u3]
        refine wp_wfI hτ b_kR_highOpen (bz_bd _) (fun σ1 h1 e1 => wp_some ?_)
        have v1 : σ1 kR_highNum 0 = σ kR_highNum 0 := by rw [e1, sg_nc (by decide)]; exact u1
        have v2 : σ1 kR_highDen 0 = σ kR_highDen 0 := by rw [e1, sg_nc (by decide)]; exact u2
        have v3 : nz (σ1 kR_highOpen 0) = (nz (σ kR_highOpen 0) || !op) := by
          rw [e1, sg_at, nz_bz]
          cases nz (σ kR_highOpen 0) <;> cases op <;> rfl
        have y1 : σ1 kR_lowNum 0 = τ kR_lowNum 0 := by rw [e1, sg_nc (by decide)]
        have y2 : σ1 kR_lowDen 0 = τ kR_lowDen 0 := by rw [e1, sg_nc (by decide)]
        have y3 : σ1 kR_lowOpen 0 = τ kR_lowOpen 0 := by rw [e1, sg_nc (by decide)]
        refine ⟨h1, FR_tr fτ (FR_sg e1) (by decide) (by decide), ⟨by omega, by omega, by omega, by omega⟩, fin σ1 y1 y2 y3 (fun t => ?_)⟩
        rw [v1, v2, v3]
        exact ((H t).2.1 (c_eq.mpr (by omega))).symm
      · refine wp_some ⟨hτ, fτ, ⟨r1, r2, r3, r4⟩, fin τ rfl rfl rfl (fun t => ?_)⟩
        rw [u1, u2, u3]
        exact ((H t).2.2 (c_lt.mpr (by omega))).symm
  rintro υ - ⟨hυ, fυ, ⟨q1, q2, q3, q4⟩, hiv⟩
  refine wp_lt (fun o eo => ?_)
  have m5 := mul_bd2 q1 (y := υ kR_highDen 0) (by omega)
  have m6 := mul_bd2 q3 (y := υ kR_lowDen 0) (by omega)
  have wo : w64 o = o := w64_of (by omega) (by omega)
  rw [wo]
  have ne := lh_ne (n := ((υ kR_lowNum 0 : Int) : Rat)) (d := ((υ kR_lowDen 0 : Int) : Rat)) (m := ((υ kR_highNum 0 : Int) : Rat)) (e := ((υ kR_highDen 0 : Int) : Rat)) (o := nz (υ kR_lowOpen 0)) (p := nz (υ kR_highOpen 0)) (c_pos (by omega)) (c_pos (by omega))
  rw [c_lt, c_eq] at ne
  have ne2 : (∃ t, iv_ υ t) ↔ (o < 0 ∨ ((o = 0 ∧ ¬ nz (υ kR_lowOpen 0) = true) ∧ ¬ nz (υ kR_highOpen 0) = true)) := by
    unfold iv_
    rw [ne, eo]
    constructor
    · rintro (h | ⟨h1, h2, h3⟩)
      · exact Or.inl (by omega)
      · exact Or.inr ⟨⟨by omega, by rw [h2]; decide⟩, by rw [h3]; decide⟩
    · rintro (h | ⟨⟨h1, h2⟩, h3⟩)
      · exact Or.inl (by omega)
      · exact Or.inr ⟨by omega, Bool.eq_false_iff.mpr h2, Bool.eq_false_iff.mpr h3⟩
  refine wp_some ⟨hυ, fυ, ⟨q1, q2, q3, q4⟩, fun _ => hiv, fun e t ht hc => ?_, fun e _ => ne2.mpr (of_decide_eq_true e)⟩
  exact of_decide_eq_false e (ne2.mp ⟨t, (hiv t).mpr ⟨ht, hc⟩⟩)
end SNE
