section TRI
def OI (σ : SG) (a b c : Int) : Int := oi_ (σ kR_spotX a) (σ kR_spotY a) (σ kR_spotX b) (σ kR_spotY b) (σ kR_spotX c) (σ kR_spotY c)
def CI (σ : SG) (a b c p : Int) : Int := ci_ (σ kR_spotX a) (σ kR_spotY a) (σ kR_spotX b) (σ kR_spotY b) (σ kR_spotX c) (σ kR_spotY c) (σ kR_spotX p) (σ kR_spotY p)
def FI (σ : SG) (a : Int) : Int := fi_ (σ kR_spotX a) (σ kR_spotY a)
/-- the same places -/
def SP (σ τ : SG) : Prop := (∀ i, τ kR_spotX i = σ kR_spotX i) ∧ (∀ i, τ kR_spotY i = σ kR_spotY i) ∧ τ kR_spots 0 = σ kR_spots 0
theorem SP_refl (σ : SG) : SP σ σ := ⟨fun _ => rfl, fun _ => rfl, rfl⟩
theorem SP_tr {σ τ υ : SG} (a : SP σ τ) (b : SP τ υ) : SP σ υ := ⟨fun i => (b.1 i).trans (a.1 i), fun i => (b.2.1 i).trans (a.2.1 i), b.2.2.trans a.2.2⟩
theorem SP_O {σ τ : SG} (h : SP σ τ) (a b c : Int) : OI τ a b c = OI σ a b c := by unfold OI; rw [h.1, h.1, h.1, h.2.1, h.2.1, h.2.1]
theorem SP_C {σ τ : SG} (h : SP σ τ) (a b c p : Int) : CI τ a b c p = CI σ a b c p := by unfold CI; rw [h.1, h.1, h.1, h.1, h.2.1, h.2.1, h.2.1, h.2.1]
theorem SP_F {σ τ : SG} (h : SP σ τ) (a : Int) : FI τ a = FI σ a := by unfold FI; rw [h.1, h.2.1]
theorem SP_fr {ms : List Nat} {σ τ : SG} (h : FR ms σ τ) (h1 : ms.contains kR_spotX = false) (h2 : ms.contains kR_spotY = false) (h3 : ms.contains kR_spots = false) : SP σ τ := ⟨FR_at h h1, FR_at h h2, FR_at h h3 0⟩
theorem mul_bd {x y : Int} (hx : -2000000000 ≤ x ∧ x ≤ 2000000000) (hy : -2000000000 ≤ y ∧ y ≤ 2000000000) : -4000000000000000000 ≤ x * y ∧ x * y ≤ 4000000000000000000 := by
  have a := Int.mul_nonneg (show 0 ≤ 2000000000 - x by omega) (show 0 ≤ 2000000000 - y by omega)
  have b := Int.mul_nonneg (show 0 ≤ 2000000000 + x by omega) (show 0 ≤ 2000000000 + y by omega)
  have c := Int.mul_nonneg (show 0 ≤ 2000000000 - x by omega) (show 0 ≤ 2000000000 + y by omega)
  have d := Int.mul_nonneg (show 0 ≤ 2000000000 + x by omega) (show 0 ≤ 2000000000 - y by omega)
  constructor <;> grind
theorem oi_bd {a1 a2 b1 b2 c1 c2 : Int} (h1 : -1000000000 ≤ a1 ∧ a1 ≤ 1000000000) (h2 : -1000000000 ≤ a2 ∧ a2 ≤ 1000000000) (h3 : -1000000000 ≤ b1 ∧ b1 ≤ 1000000000) (h4 : -1000000000 ≤ b2 ∧ b2 ≤ 1000000000) (h5 : -1000000000 ≤ c1 ∧ c1 ≤ 1000000000) (h6 : -1000000000 ≤ c2 ∧ c2 ≤ 1000000000) : -8000000000000000000 ≤ oi_ a1 a2 b1 b2 c1 c2 ∧ oi_ a1 a2 b1 b2 c1 c2 ≤ 8000000000000000000 := by
  unfold oi_
  have a := mul_bd (x := b1 - a1) (y := c2 - a2) (by omega) (by omega)
  have b := mul_bd (x := b2 - a2) (y := c1 - a1) (by omega) (by omega)
  omega
theorem turn_sg {a1 a2 b1 b2 c1 c2 : Int} (h1 : -1000000000 ≤ a1 ∧ a1 ≤ 1000000000) (h2 : -1000000000 ≤ a2 ∧ a2 ≤ 1000000000) (h3 : -1000000000 ≤ b1 ∧ b1 ≤ 1000000000) (h4 : -1000000000 ≤ b2 ∧ b2 ≤ 1000000000) (h5 : -1000000000 ≤ c1 ∧ c1 ≤ 1000000000) (h6 : -1000000000 ≤ c2 ∧ c2 ≤ 1000000000) : -1 ≤ fR_turn a1 a2 b1 b2 c1 c2 ∧ fR_turn a1 a2 b1 b2 c1 c2 ≤ 1 ∧ (0 < fR_turn a1 a2 b1 b2 c1 c2 ↔ 0 < oi_ a1 a2 b1 b2 c1 c2) ∧ (fR_turn a1 a2 b1 b2 c1 c2 = 0 ↔ oi_ a1 a2 b1 b2 c1 c2 = 0) ∧ (fR_turn a1 a2 b1 b2 c1 c2 < 0 ↔ oi_ a1 a2 b1 b2 c1 c2 < 0) := by
  have hb := oi_bd h1 h2 h3 h4 h5 h6
  have e : fR_turn a1 a2 b1 b2 c1 c2 = (if oi_ a1 a2 b1 b2 c1 c2 < 0 then -1 else if 0 < oi_ a1 a2 b1 b2 c1 c2 then 1 else 0) := by
    unfold fR_turn fR_signOf fR_cross
    show (if w64 (oi_ a1 a2 b1 b2 c1 c2) < 0 then -1 else if 0 < w64 (oi_ a1 a2 b1 b2 c1 c2) then 1 else 0) = _
    rw [w64_of (x := oi_ a1 a2 b1 b2 c1 c2) (by omega) (by omega)]
  rw [e]
  split
  · omega
  · split <;> omega
theorem v_turnOf {σ : SG} {a b c : Int} (hσ : II σ) (a0 : 0 ≤ a) (a1 : a ≤ 1023) (b0 : 0 ≤ b) (b1 : b ≤ 1023) (c0 : 0 ≤ c) (c1 : c ≤ 1023) : wp_ (fR_turnOf σ a b c) (fun v => -1 ≤ v ∧ v ≤ 1 ∧ (0 < v ↔ 0 < OI σ a b c) ∧ (v = 0 ↔ OI σ a b c = 0) ∧ (v < 0 ↔ OI σ a b c < 0)) := by
  unfold fR_turnOf
  rw [w32_of (x := a) (by omega) (by omega), w32_of (x := b) (by omega) (by omega), w32_of (x := c) (by omega) (by omega)]
  refine wp_rd a0 (by omega) (wp_rd a0 (by omega) (wp_rd b0 (by omega) (wp_rd b0 (by omega) (wp_rd c0 (by omega) (wp_rd c0 (by omega) ?_)))))
  exact wp_some (turn_sg (ii_kR_spotX hσ a) (ii_kR_spotY hσ a) (ii_kR_spotX hσ b) (ii_kR_spotY hσ b) (ii_kR_spotX hσ c) (ii_kR_spotY hσ c))
theorem v_isLess {σ : SG} {a b : Int} (hσ : II σ) (a0 : 0 ≤ a) (a1 : a ≤ 1023) (b0 : 0 ≤ b) (b1 : b ≤ 1023) : wp_ (fR_isLess σ a b) (fun v => v = decide (FI σ a < FI σ b)) := by
  unfold fR_isLess
  rw [w32_of (x := a) (by omega) (by omega), w32_of (x := b) (by omega) (by omega)]
  refine wp_rd a0 (by omega) (wp_rd a0 (by omega) (wp_rd b0 (by omega) (wp_rd b0 (by omega) (wp_some ?_))))
  have h1 := ii_kR_spotX hσ a
  have h2 := ii_kR_spotY hσ a
  have h3 := ii_kR_spotX hσ b
  have h4 := ii_kR_spotY hσ b
  unfold fR_isBefore FI
  rw [w64_of (x := σ kR_spotX a) (by omega) (by omega), w64_of (x := σ kR_spotX b) (by omega) (by omega), w64_of (x := σ kR_spotY a) (by omega) (by omega), w64_of (x := σ kR_spotY b) (by omega) (by omega)]
  have := fi_lt (x1 := σ kR_spotX a) (y1 := σ kR_spotX b) h2 h4
  simp only [this]
theorem v_leastSpot {σ : SG} (hσ : II σ) (hn : 1 ≤ σ kR_spots 0) : wp_ (fR_leastSpot σ) (fun v => 0 ≤ v ∧ v < σ kR_spots 0 ∧ ∀ k, 0 ≤ k → k < σ kR_spots 0 → FI σ v ≤ FI σ k) := by
  unfold fR_leastSpot
  have hs := ii_kR_spots hσ 0
  rw [w32_of (x := σ kR_spots 0) (by omega) (by omega)]
  refine wp_bd (P := fun x => 0 ≤ x.1 ∧ x.1 < σ kR_spots 0 ∧ ∀ k, 0 ≤ k → k < σ kR_spots 0 → FI σ x.1 ≤ FI σ k) ?_ (fun x _ h => wp_some h)
  refine wp_whl (fun x => 0 ≤ x.1 ∧ x.1 < σ kR_spots 0 ∧ 1 ≤ x.2 ∧ x.2 ≤ σ kR_spots 0 ∧ ∀ k, 0 ≤ k → k < x.2 → FI σ x.1 ≤ FI σ k) (fun x => (σ kR_spots 0 - x.2).toNat) ⟨Int.le_refl 0, by dsimp only; omega, by dsimp only; omega, by dsimp only; omega, fun k k0 k1 => by rw [show k = 0 by (dsimp only at k1; omega)]; exact Int.le_refl _⟩ ?_
  rintro ⟨l, k⟩ ⟨l0, l1, k0, k1, h⟩
  dsimp only at l0 l1 k0 k1 h ⊢
  rw [w32_of (x := k) (by omega) (by omega)]
  refine wp_if (fun g => ?_) (fun g => ?_)
  · refine wp_bd (P := fun v => 0 ≤ v ∧ v < σ kR_spots 0 ∧ ∀ j, 0 ≤ j → j < k + 1 → FI σ v ≤ FI σ j) ?_ (fun v _ hv => wp_il ⟨⟨hv.1, hv.2.1, by dsimp only; omega, by dsimp only; omega, hv.2.2⟩, by dsimp only; omega⟩)
    refine wp_bd (v_isLess hσ (by omega) (by omega) l0 (by omega)) ?_
    rintro v - hv
    refine wp_if (fun q => ?_) (fun q => ?_)
    · rw [hv] at q
      have q := of_decide_eq_true q
      refine wp_some ⟨by omega, g, fun j j0 j1 => ?_⟩
      by_cases e : j = k
      · rw [e]; exact Int.le_refl _
      · have := h j j0 (by omega); omega
    · rw [hv] at q
      have q := of_decide_eq_false (Bool.eq_false_iff.mpr q)
      refine wp_some ⟨l0, l1, fun j j0 j1 => ?_⟩
      by_cases e : j = k
      · rw [e]; omega
      · exact h j j0 (by omega)
  · exact wp_ir ⟨l0, l1, fun j j0 j1 => h j j0 (by omega)⟩
def WY (σ : SG) (a b : Int) : Nat := (σ kR_spotX b - σ kR_spotX a).natAbs + (σ kR_spotY b - σ kR_spotY a).natAbs
theorem v_wayTo {σ : SG} {a b : Int} (hσ : II σ) (a0 : 0 ≤ a) (a1 : a ≤ 1023) (b0 : 0 ≤ b) (b1 : b ≤ 1023) : wp_ (fR_wayTo σ a b) (fun v => v = WY σ a b ∧ v ≤ 4000000000) := by
  unfold fR_wayTo
  rw [w32_of (x := a) (by omega) (by omega), w32_of (x := b) (by omega) (by omega)]
  refine wp_rd b0 (by omega) (wp_rd a0 (by omega) (wp_rd b0 (by omega) (wp_rd a0 (by omega) (wp_some ?_))))
  have h1 := ii_kR_spotX hσ a
  have h2 := ii_kR_spotY hσ a
  have h3 := ii_kR_spotX hσ b
  have h4 := ii_kR_spotY hσ b
  rw [w64_of (x := σ kR_spotX b - σ kR_spotX a) (by omega) (by omega), w64_of (x := σ kR_spotY b - σ kR_spotY a) (by omega) (by omega)]
  unfold WY
  split <;> split <;> omega
/-- the places differ -/
def DS (σ : SG) : Prop := ∀ i j, 0 ≤ i → i < σ kR_spots 0 → 0 ≤ j → j < σ kR_spots 0 → FI σ i = FI σ j → i = j
theorem OI_tr {σ : SG} {p a b c : Int} (ha : FI σ p < FI σ a) (hb : FI σ p < FI σ b) (hc : FI σ p < FI σ c) : (0 < OI σ p a b → 0 < OI σ p b c → 0 < OI σ p a c) ∧ (0 ≤ OI σ p a b → 0 ≤ OI σ p b c → 0 ≤ OI σ p a c ∧ (OI σ p a c = 0 → OI σ p a b = 0 ∧ OI σ p b c = 0)) := oi_tr3 ha hb hc
theorem OI_as (σ : SG) (p a b : Int) : OI σ p b a = -OI σ p a b := by unfold OI oi_; grind
theorem OI_0 (σ : SG) (p a : Int) : OI σ p a a = 0 := by unfold OI oi_; grind
theorem OI_0b (σ : SG) (p a : Int) : OI σ p a p = 0 := by unfold OI oi_; grind
/-- from the least place the nearest one with all others to the left -/
theorem v_hullBehind {σ : SG} {a : Int} (hσ : II σ) (hd : DS σ) (a0 : 0 ≤ a) (a1 : a < σ kR_spots 0) (hn : 2 ≤ σ kR_spots 0) (hl : ∀ k, 0 ≤ k → k < σ kR_spots 0 → FI σ a ≤ FI σ k) : wp_ (fR_hullBehind σ a true) (fun v => 0 ≤ v ∧ v < σ kR_spots 0 ∧ v ≠ a ∧ ∀ k, 0 ≤ k → k < σ kR_spots 0 → k ≠ a → 0 ≤ OI σ a v k ∧ (OI σ a v k = 0 → WY σ a v ≤ WY σ a k)) := by
  unfold fR_hullBehind
  have hs := ii_kR_spots hσ 0
  have hlt : ∀ k, 0 ≤ k → k < σ kR_spots 0 → k ≠ a → FI σ a < FI σ k := by
    intro k k0 k1 hk
    have h1 := hl k k0 k1
    have h2 : FI σ a ≠ FI σ k := fun e => hk (hd a k a0 a1 k0 k1 e).symm
    omega
  rw [w32_of (x := σ kR_spots 0) (by omega) (by omega), w32_of (x := a) (by omega) (by omega)]
  refine wp_bd (P := fun x => 0 ≤ x.1 ∧ x.1 < σ kR_spots 0 ∧ x.1 ≠ a ∧ ∀ k, 0 ≤ k → k < σ kR_spots 0 → k ≠ a → 0 ≤ OI σ a x.1 k ∧ (OI σ a x.1 k = 0 → WY σ a x.1 ≤ WY σ a k)) ?_ (fun x _ h => wp_some h)
  refine wp_whl (fun x => 0 ≤ x.2 ∧ x.2 ≤ σ kR_spots 0 ∧ ((x.1 = -1 ∧ ∀ k, 0 ≤ k → k < x.2 → k = a) ∨ (0 ≤ x.1 ∧ x.1 < σ kR_spots 0 ∧ x.1 ≠ a ∧ ∀ k, 0 ≤ k → k < x.2 → k ≠ a → 0 ≤ OI σ a x.1 k ∧ (OI σ a x.1 k = 0 → WY σ a x.1 ≤ WY σ a k)))) (fun x => (σ kR_spots 0 - x.2).toNat) ⟨Int.le_refl 0, by dsimp only; omega, Or.inl ⟨rfl, fun k k0 k1 => by dsimp only at k1; omega⟩⟩ ?_
  rintro ⟨v, k⟩ ⟨k0, k1, h⟩
  dsimp only at k0 k1 h ⊢
  have bv : -1 ≤ v ∧ v ≤ 1023 := by rcases h with h | h <;> omega
  rw [w32_of (x := k) (by omega) (by omega), w32_of (x := v) (by omega) (by omega)]
  refine wp_if (fun g => ?_) (fun g => ?_)
  · refine wp_if (fun q => ?_) (fun q => ?_)
    · refine wp_il ⟨⟨by dsimp only; omega, by dsimp only; omega, ?_⟩, by dsimp only; omega⟩
      rcases h with ⟨h1, h2⟩ | ⟨h1, h2, h3, h4⟩
      · exact Or.inl ⟨h1, fun j j0 j1 => by
          by_cases e : j = k
          · rw [e, q]
          · exact h2 j j0 (by dsimp only at j1; omega)⟩
      · exact Or.inr ⟨h1, h2, h3, fun j j0 j1 hj => h4 j j0 (by dsimp only at j1; omega) hj⟩
    · refine wp_if (fun r => ?_) (fun r => ?_)
      · refine wp_il ⟨⟨by dsimp only; omega, by dsimp only; omega, Or.inr ⟨k0, g, q, fun j j0 j1 hj => ?_⟩⟩, by dsimp only; omega⟩
        dsimp only at j1 ⊢
        have : j = k := by
          rcases h with ⟨h1, h2⟩ | ⟨h1, -⟩
          · by_cases e : j = k
            · exact e
            · exact absurd (h2 j j0 (by omega)) hj
          · omega
        rw [this, OI_0]
        exact ⟨Int.le_refl 0, fun _ => Nat.le_refl _⟩
      · obtain ⟨h1, h2, h3, h4⟩ := h.resolve_left (fun z => r z.1)
        refine wp_bd (v_turnOf hσ a0 (by omega) h1 (by omega) k0 (by omega)) ?_
        rintro t - ⟨t0, t1, t2, t3, t4⟩
        refine wp_bd (P := fun w => w = decide (WY σ a k < WY σ a v)) ?_ ?_
        · refine wp_bd (v_wayTo hσ a0 (by omega) k0 (by omega)) ?_
          rintro x - ⟨x1, x2⟩
          refine wp_bd (v_wayTo hσ a0 (by omega) h1 (by omega)) ?_
          rintro y - ⟨y1, y2⟩
          rw [w64_of (x := x) (by omega) (by omega), w64_of (x := y) (by omega) (by omega)]
          refine wp_if (fun z => ?_) (fun z => ?_)
          · exact wp_some (decide_eq_true (by omega)).symm
          · exact wp_some (decide_eq_false (by omega)).symm
        rintro w - hw
        rw [w32_of (x := t) (by omega) (by omega)]
        have fk := hlt k k0 g q
        have fv := hlt v h1 h2 h3
        refine wp_bd (P := fun u => 0 ≤ u ∧ u < σ kR_spots 0 ∧ u ≠ a ∧ ∀ j, 0 ≤ j → j < k + 1 → j ≠ a → 0 ≤ OI σ a u j ∧ (OI σ a u j = 0 → WY σ a u ≤ WY σ a j)) ?_ (fun u _ hu => wp_il ⟨⟨by dsimp only; omega, by dsimp only; omega, Or.inr hu⟩, by dsimp only; omega⟩)
        refine wp_if (fun z => ?_) (fun z => ?_)
        · refine wp_some ⟨k0, g, q, fun j j0 j1 hj => ?_⟩
          by_cases e : j = k
          · rw [e, OI_0]; exact ⟨Int.le_refl 0, fun _ => Nat.le_refl _⟩
          · obtain ⟨p1, p2⟩ := h4 j j0 (by omega) hj
            have fj := hlt j j0 (by omega) hj
            have as := OI_as σ a v k
            have T := OI_tr (σ := σ) (p := a) (a := k) (b := v) (c := j) fk fv fj
            rcases z with z | ⟨z, zw⟩
            · have := (T.2 (by omega) p1)
              exact ⟨this.1, fun o => by have := (this.2 o).1; omega⟩
            · have := (T.2 (by omega) p1)
              rw [hw] at zw
              have zw := of_decide_eq_true zw
              exact ⟨this.1, fun o => by have := p2 (this.2 o).2; omega⟩
        · refine wp_some ⟨h1, h2, h3, fun j j0 j1 hj => ?_⟩
          by_cases e : j = k
          · rw [e]
            refine ⟨by omega, fun o => ?_⟩
            have : ¬ (w = true) := fun zw => z (Or.inr ⟨by omega, zw⟩)
            rw [hw] at this
            have := of_decide_eq_false (Bool.eq_false_iff.mpr this)
            omega
          · exact h4 j j0 (by omega) hj
  · refine wp_ir ?_
    have e : k = σ kR_spots 0 := by omega
    rcases h with ⟨h1, h2⟩ | ⟨h1, h2, h3, h4⟩
    · exfalso
      have z0 := h2 0 (by omega) (by omega)
      have z1 := h2 1 (by omega) (by omega)
      omega
    · exact ⟨h1, h2, h3, fun j j0 j1 hj => h4 j j0 (by omega) hj⟩
/-- the place to the left of a way with which the circle has none inside, on that side -/
theorem v_third {σ : SG} {a b : Int} (hσ : II σ) (a0 : 0 ≤ a) (a1 : a < σ kR_spots 0) (b0 : 0 ≤ b) (b1 : b < σ kR_spots 0) : wp_ (fR_third σ a b) (fun x => II x.2 ∧ FR [kR_limbs, kR_sign, kR_w] σ x.2 ∧ ((x.1 = -1 ∧ ∀ k, 0 ≤ k → k < σ kR_spots 0 → OI σ a b k ≤ 0) ∨ (0 ≤ x.1 ∧ x.1 < σ kR_spots 0 ∧ 0 < OI σ a b x.1 ∧ ∀ k, 0 ≤ k → k < σ kR_spots 0 → 0 < OI σ a b k → CI σ a b x.1 k ≤ 0))) := by
  unfold fR_third
  have hs := ii_kR_spots hσ 0
  rw [w32_of (x := a) (by omega) (by omega), w32_of (x := b) (by omega) (by omega)]
  refine wp_bd (P := fun x => II x.2.2 ∧ FR [kR_limbs, kR_sign, kR_w] σ x.2.2 ∧ ((x.1 = -1 ∧ ∀ k, 0 ≤ k → k < σ kR_spots 0 → OI σ a b k ≤ 0) ∨ (0 ≤ x.1 ∧ x.1 < σ kR_spots 0 ∧ 0 < OI σ a b x.1 ∧ ∀ k, 0 ≤ k → k < σ kR_spots 0 → 0 < OI σ a b k → CI σ a b x.1 k ≤ 0))) ?_ (fun x _ h => wp_some h)
  refine wp_whl (fun x => 0 ≤ x.2.1 ∧ x.2.1 ≤ σ kR_spots 0 ∧ II x.2.2 ∧ FR [kR_limbs, kR_sign, kR_w] σ x.2.2 ∧ ((x.1 = -1 ∧ ∀ k, 0 ≤ k → k < x.2.1 → OI σ a b k ≤ 0) ∨ (0 ≤ x.1 ∧ x.1 < σ kR_spots 0 ∧ 0 < OI σ a b x.1 ∧ ∀ k, 0 ≤ k → k < x.2.1 → 0 < OI σ a b k → CI σ a b x.1 k ≤ 0))) (fun x => (σ kR_spots 0 - x.2.1).toNat) ⟨Int.le_refl 0, by dsimp only; omega, hσ, FR_refl _ _, Or.inl ⟨rfl, fun k k0 k1 => by dsimp only at k1; omega⟩⟩ ?_
  rintro ⟨v, k, τ⟩ ⟨k0, k1, hτ, hf, h⟩
  dsimp only at k0 k1 hτ hf h ⊢
  have sp := SP_fr hf (by decide) (by decide) (by decide)
  have bv : -1 ≤ v ∧ v ≤ 1023 := by rcases h with h | h <;> omega
  rw [sp.2.2, w32_of (x := k) (by omega) (by omega), w32_of (x := v) (by omega) (by omega), w32_of (x := σ kR_spots 0) (by omega) (by omega)]
  have skip : OI σ a b k ≤ 0 → wp_ (some (Sum.inl (v, k + 1, τ) : (Int × Int × SG) ⊕ (Int × Int × SG))) (fun o => (∀ s', o = .inl s' → (0 ≤ s'.2.1 ∧ s'.2.1 ≤ σ kR_spots 0 ∧ II s'.2.2 ∧ FR [kR_limbs, kR_sign, kR_w] σ s'.2.2 ∧ ((s'.1 = -1 ∧ ∀ k, 0 ≤ k → k < s'.2.1 → OI σ a b k ≤ 0) ∨ (0 ≤ s'.1 ∧ s'.1 < σ kR_spots 0 ∧ 0 < OI σ a b s'.1 ∧ ∀ k, 0 ≤ k → k < s'.2.1 → 0 < OI σ a b k → CI σ a b s'.1 k ≤ 0))) ∧ (σ kR_spots 0 - s'.2.1).toNat < (σ kR_spots 0 - k).toNat) ∧ ∀ r, o = .inr r → II r.2.2 ∧ FR [kR_limbs, kR_sign, kR_w] σ r.2.2 ∧ ((r.1 = -1 ∧ ∀ k, 0 ≤ k → k < σ kR_spots 0 → OI σ a b k ≤ 0) ∨ (0 ≤ r.1 ∧ r.1 < σ kR_spots 0 ∧ 0 < OI σ a b r.1 ∧ ∀ k, 0 ≤ k → k < σ kR_spots 0 → 0 < OI σ a b k → CI σ a b r.1 k ≤ 0))) ∨ ¬ k < σ kR_spots 0 := by
    intro ho
    by_cases g : k < σ kR_spots 0
    · left
      refine wp_il ⟨⟨by dsimp only; omega, by dsimp only; omega, hτ, hf, ?_⟩, by dsimp only; omega⟩
      rcases h with ⟨h1, h2⟩ | ⟨h1, h2, h3, h4⟩
      · exact Or.inl ⟨h1, fun j j0 j1 => by
          by_cases e : j = k
          · rw [e]; exact ho
          · exact h2 j j0 (by dsimp only at j1; omega)⟩
      · exact Or.inr ⟨h1, h2, h3, fun j j0 j1 hj => by
          by_cases e : j = k
          · rw [e] at hj; omega
          · exact h4 j j0 (by dsimp only at j1; omega) hj⟩
    · exact Or.inr g
  refine wp_if (fun g => ?_) (fun g => ?_)
  · refine wp_if (fun q => ?_) (fun q => ?_)
    · exact (skip (by rw [q, OI_0b]; exact Int.le_refl 0)).resolve_right (fun z => z g)
    refine wp_if (fun q2 => ?_) (fun q2 => ?_)
    · exact (skip (by rw [q2, OI_0]; exact Int.le_refl 0)).resolve_right (fun z => z g)
    refine wp_bd (v_turnOf hτ a0 (by omega) b0 (by omega) k0 (by omega)) ?_
    rintro t - ⟨t0, t1, t2, t3, t4⟩
    rw [SP_O sp] at t2 t3 t4
    rw [w32_of (x := t) (by omega) (by omega)]
    refine wp_if (fun r => ?_) (fun r => ?_)
    · exact (skip (by omega)).resolve_right (fun z => z g)
    have ok : 0 < OI σ a b k := by omega
    refine wp_bd (P := fun x => II x.2 ∧ FR [kR_limbs, kR_sign, kR_w] σ x.2 ∧ 0 ≤ x.1 ∧ x.1 < σ kR_spots 0 ∧ 0 < OI σ a b x.1 ∧ ∀ j, 0 ≤ j → j < k + 1 → 0 < OI σ a b j → CI σ a b x.1 j ≤ 0) ?_ (fun x _ hx => wp_il ⟨⟨by dsimp only; omega, by dsimp only; omega, hx.1, hx.2.1, Or.inr hx.2.2⟩, by dsimp only; omega⟩)
    have self : ∀ x, CI σ a b x x = 0 := by intro x; unfold CI ci_; grind
    refine wp_if (fun z => ?_) (fun z => ?_)
    · refine wp_some ⟨hτ, hf, k0, g, ok, fun j j0 j1 hj => ?_⟩
      by_cases e : j = k
      · rw [e, self]; exact Int.le_refl 0
      · exfalso
        rcases h with ⟨-, h2⟩ | ⟨h1, -⟩
        · have := h2 j j0 (by omega); omega
        · omega
    · obtain ⟨h1, h2, h3, h4⟩ := h.resolve_left (fun y => z y.1)
      refine wp_bd (v_inCircle hτ a0 (by omega) b0 (by omega) h1 (by omega) k0 (by omega)) ?_
      rintro ⟨y, υ⟩ - ⟨hυ, fυ, y0, y1, e1, e2⟩
      dsimp only at hυ fυ y0 y1 e1 e2 ⊢
      have e2 : 0 < y ↔ 0 < CI σ a b v k := by rw [e2, ← SP_C sp]; rfl
      rw [w32_of (x := y) (by omega) (by omega)]
      refine wp_if (fun c => ?_) (fun c => ?_)
      · have c2 := e2.mp c
        refine wp_some ⟨hυ, FR3 hf fυ, k0, g, ok, fun j j0 j1 hj => ?_⟩
        dsimp only
        by_cases e : j = k
        · rw [e, self]; exact Int.le_refl 0
        · exact ci_side h3 ok hj (h4 j j0 (by omega) hj) c2
      · refine wp_some ⟨hυ, FR3 hf fυ, h1, h2, h3, fun j j0 j1 hj => ?_⟩
        dsimp only
        by_cases e : j = k
        · rw [e]; have := mt e2.mpr c; omega
        · exact h4 j j0 (by omega) hj
  · refine wp_ir ⟨hτ, hf, ?_⟩
    have e : k = σ kR_spots 0 := by omega
    rw [e] at h
    exact h
end TRI
