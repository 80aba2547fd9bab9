section TRC
/-- places of a circle but m, in their order round m, of those below k -/
def LSo (σ : SG) (a b c m : Int) (f : Int → Int) (C k : Int) : Prop := (∀ i, 0 ≤ i → i < C → 0 ≤ f i ∧ f i < k ∧ f i ≠ m ∧ CI σ a b c (f i) = 0) ∧ (∀ i j, 0 ≤ i → i < j → j < C → 0 < OI σ m (f i) (f j)) ∧ (∀ q, 0 ≤ q → q < k → q ≠ m → CI σ a b c q = 0 → ∃ i, 0 ≤ i ∧ i < C ∧ f i = q)
/-- the places of a circle, left round from the least one -/
def GC (σ : SG) (a b c : Int) (f : Int → Int) (L : Int) : Prop := 3 ≤ L ∧ L ≤ σ kR_spots 0 ∧ (∀ i, 0 ≤ i → i < L → 0 ≤ f i ∧ f i < σ kR_spots 0 ∧ CI σ a b c (f i) = 0) ∧ (∀ k, 0 ≤ k → k < σ kR_spots 0 → CI σ a b c k = 0 → ∃ i, 0 ≤ i ∧ i < L ∧ f i = k) ∧ (∀ i, 1 ≤ i → i < L → FI σ (f 0) < FI σ (f i)) ∧ (∀ i j, 1 ≤ i → i < j → j < L → 0 < OI σ (f 0) (f i) (f j))
theorem CI_a (σ : SG) (a b c : Int) : CI σ a b c a = 0 := by unfold CI ci_; grind
theorem CI_b (σ : SG) (a b c : Int) : CI σ a b c b = 0 := by unfold CI ci_; grind
theorem CI_c (σ : SG) (a b c : Int) : CI σ a b c c = 0 := by unfold CI ci_; grind
/-- three of a circle's places are not on one line -/
theorem CI_nl {σ : SG} (hd : DS σ) {a b c m k x : Int} (h0 : 0 < OI σ a b c) (hm : CI σ a b c m = 0) (hk : CI σ a b c k = 0) (hx : CI σ a b c x = 0) (m0 : 0 ≤ m) (m1 : m < σ kR_spots 0) (k0 : 0 ≤ k) (k1 : k < σ kR_spots 0) (x0 : 0 ≤ x) (x1 : x < σ kR_spots 0) (n1 : m ≠ k) (n2 : m ≠ x) (n3 : k ≠ x) : OI σ m k x ≠ 0 := by
  intro h
  have fe : ∀ {p q : Int}, σ kR_spotX p = σ kR_spotX q → σ kR_spotY p = σ kR_spotY q → FI σ p = FI σ q := by intro p q e1 e2; unfold FI; rw [e1, e2]
  rcases ci_nl h0 hm hk hx h with ⟨e1, e2⟩ | ⟨e1, e2⟩ | ⟨e1, e2⟩
  · exact n1 (hd _ _ m0 m1 k0 k1 (fe e1 e2))
  · exact n2 (hd _ _ m0 m1 x0 x1 (fe e1 e2))
  · exact n3 (hd _ _ k0 k1 x0 x1 (fe e1 e2))
/-- whether a place is on the circle -/
theorem v_onC {σ τ : SG} {a b c k : Int} (sp : SP σ τ) (hτ : II τ) (a0 : 0 ≤ a) (a1 : a ≤ 1023) (b0 : 0 ≤ b) (b1 : b ≤ 1023) (c0 : 0 ≤ c) (c1 : c ≤ 1023) (k0 : 0 ≤ k) (k1 : k ≤ 1023) : wp_ (if k = a then some (true, τ) else if k = b then some (true, τ) else if k = c then some (true, τ) else bd_ (fR_inCircle τ a b c k) fun (x_33, σ_32) => if (w32 x_33) = 0 then some (true, σ_32) else some (false, σ_32)) (fun x => II x.2 ∧ FR [kR_limbs, kR_sign, kR_w] τ x.2 ∧ x.1 = decide (CI σ a b c k = 0)) := by
  refine wp_if (fun q => ?_) (fun q => ?_)
  · rw [q]; exact wp_some ⟨hτ, FR_refl _ _, (decide_eq_true (CI_a σ a b c)).symm⟩
  refine wp_if (fun q => ?_) (fun q => ?_)
  · rw [q]; exact wp_some ⟨hτ, FR_refl _ _, (decide_eq_true (CI_b σ a b c)).symm⟩
  refine wp_if (fun q => ?_) (fun q => ?_)
  · rw [q]; exact wp_some ⟨hτ, FR_refl _ _, (decide_eq_true (CI_c σ a b c)).symm⟩
  refine wp_bd (v_inCircle hτ a0 a1 b0 b1 c0 c1 k0 k1) ?_
  rintro ⟨y, υ⟩ - ⟨hυ, fυ, y0, y1, e1, e2⟩
  dsimp only at hυ fυ y0 y1 e1 e2 ⊢
  have e1 : y = 0 ↔ CI σ a b c k = 0 := by rw [e1, ← SP_C sp]; rfl
  rw [w32_of (x := y) (by omega) (by omega)]
  refine wp_if (fun z => ?_) (fun z => ?_)
  · exact wp_some ⟨hυ, fυ, (decide_eq_true (e1.mp z)).symm⟩
  · exact wp_some ⟨hυ, fυ, (decide_eq_false (fun g => z (e1.mpr g))).symm⟩
def CF : List Nat := [kR_circleMany, kR_limbs, kR_onCircle, kR_sign, kR_w]
theorem FR5 {σ τ υ : SG} (a : FR [kR_circleMany, kR_limbs, kR_onCircle, kR_sign, kR_w] σ τ) (b : FR [kR_circleMany, kR_limbs, kR_onCircle, kR_sign, kR_w] τ υ) : FR [kR_circleMany, kR_limbs, kR_onCircle, kR_sign, kR_w] σ υ := FR_tr a b (by decide) (by decide)
theorem FR35 {σ τ : SG} (a : FR [kR_limbs, kR_sign, kR_w] σ τ) : FR [kR_circleMany, kR_limbs, kR_onCircle, kR_sign, kR_w] σ τ := FR_le a (by decide)
theorem v_gatherCircle {σ : SG} {a b c : Int} (hσ : II σ) (hd : DS σ) (a0 : 0 ≤ a) (a1 : a < σ kR_spots 0) (b0 : 0 ≤ b) (b1 : b < σ kR_spots 0) (c0 : 0 ≤ c) (c1 : c < σ kR_spots 0) (h0 : 0 < OI σ a b c) : wp_ (fR_gatherCircle σ a b c) (fun τ => II τ ∧ FR [kR_circleMany, kR_limbs, kR_onCircle, kR_sign, kR_w] σ τ ∧ GC σ a b c (τ kR_onCircle) (τ kR_circleMany 0)) := by
  unfold fR_gatherCircle
  have hs := ii_kR_spots hσ 0
  rw [w32_of (x := a) (by omega) (by omega), w32_of (x := b) (by omega) (by omega), w32_of (x := c) (by omega) (by omega)]
  refine wp_wfI hσ b_kR_circleMany (by decide) (fun σ1 h1 e1 => ?_)
  have f1 : FR [kR_circleMany, kR_limbs, kR_onCircle, kR_sign, kR_w] σ σ1 := FR_le (FR_sg e1) (by decide)
  have s1 := SP_fr f1 (by decide) (by decide) (by decide)
  have c1' : σ1 kR_circleMany 0 = 0 := sg_val e1
  refine wp_bd (P := fun x => (x = a ∨ x = b)) ?_ ?_
  · refine wp_bd (v_isLess h1 a0 (by omega) b0 (by omega)) ?_
    rintro v - -
    exact wp_if (fun _ => wp_some (Or.inl rfl)) (fun _ => wp_some (Or.inr rfl))
  rintro x - hx
  refine wp_bd (P := fun y => 0 ≤ y ∧ y < σ kR_spots 0 ∧ CI σ a b c y = 0) ?_ ?_
  · have hx2 : 0 ≤ x ∧ x < σ kR_spots 0 ∧ CI σ a b c x = 0 := by
      rcases hx with q | q
      · rw [q]; exact ⟨a0, a1, CI_a _ _ _ _⟩
      · rw [q]; exact ⟨b0, b1, CI_b _ _ _ _⟩
    refine wp_bd (v_isLess h1 c0 (by omega) hx2.1 (by omega)) ?_
    rintro v - -
    exact wp_if (fun _ => wp_some ⟨c0, c1, CI_c _ _ _ _⟩) (fun _ => wp_some hx2)
  rintro y - ⟨y0, y1, y2⟩
  -- the least one
  refine wp_bd (P := fun s => II s.2.2 ∧ FR [kR_circleMany, kR_limbs, kR_onCircle, kR_sign, kR_w] σ s.2.2 ∧ s.2.2 kR_circleMany 0 = 0 ∧ 0 ≤ s.1 ∧ s.1 < σ kR_spots 0 ∧ CI σ a b c s.1 = 0 ∧ ∀ j, 0 ≤ j → j < σ kR_spots 0 → CI σ a b c j = 0 → FI σ s.1 ≤ FI σ j) ?_ ?_
  · refine wp_whl (fun s => 0 ≤ s.2.1 ∧ s.2.1 ≤ σ kR_spots 0 ∧ II s.2.2 ∧ FR [kR_circleMany, kR_limbs, kR_onCircle, kR_sign, kR_w] σ s.2.2 ∧ s.2.2 kR_circleMany 0 = 0 ∧ 0 ≤ s.1 ∧ s.1 < σ kR_spots 0 ∧ CI σ a b c s.1 = 0 ∧ ∀ j, 0 ≤ j → j < s.2.1 → CI σ a b c j = 0 → FI σ s.1 ≤ FI σ j) (fun s => (σ kR_spots 0 - s.2.1).toNat) ⟨Int.le_refl 0, by dsimp only; omega, h1, f1, c1', y0, y1, y2, fun j j0 j1 => by dsimp only at j1; omega⟩ ?_
    rintro ⟨l, k, τ⟩ ⟨k0, k1, hτ, hf, hc, l0, l1, l2, h⟩
    dsimp only at k0 k1 hτ hf hc l0 l1 l2 h ⊢
    have sp := SP_fr hf (by decide) (by decide) (by decide)
    simp only [sp.2.2]
    rw [w32_of (x := k) (by omega) (by omega), w32_of (x := σ kR_spots 0) (by omega) (by omega)]
    refine wp_if (fun g => ?_) (fun g => ?_)
    · refine wp_bd (v_onC sp hτ a0 (by omega) b0 (by omega) c0 (by omega) k0 (by omega)) ?_
      rintro ⟨w, υ⟩ - ⟨hυ, fυ, hw⟩
      dsimp only at hυ fυ hw ⊢
      have fυ2 := FR5 hf (FR35 fυ)
      have sp2 := SP_fr fυ2 (by decide) (by decide) (by decide)
      have cu : υ kR_circleMany 0 = 0 := by rw [FR_at fυ (by decide)]; exact hc
      refine wp_bd (P := fun u => 0 ≤ u ∧ u < σ kR_spots 0 ∧ CI σ a b c u = 0 ∧ ∀ j, 0 ≤ j → j < k + 1 → CI σ a b c j = 0 → FI σ u ≤ FI σ j) ?_ (fun u _ hu => wp_il ⟨⟨by dsimp only; omega, by dsimp only; omega, hυ, fυ2, cu, hu⟩, by dsimp only; omega⟩)
      refine wp_if (fun z => ?_) (fun z => ?_)
      · rw [hw] at z
        have z := of_decide_eq_true z
        refine wp_bd (v_isLess hυ k0 (by omega) l0 (by omega)) ?_
        rintro v - hv
        rw [SP_F sp2, SP_F sp2] at hv
        refine wp_if (fun q => ?_) (fun q => ?_)
        · rw [hv] at q
          have q := of_decide_eq_true q
          refine wp_some ⟨k0, g, z, fun j j0 j1 hj => ?_⟩
          by_cases e : j = k
          · rw [e]; exact Int.le_refl _
          · have := h j j0 (by omega) hj; omega
        · rw [hv] at q
          have q := of_decide_eq_false (Bool.eq_false_iff.mpr q)
          refine wp_some ⟨l0, l1, l2, fun j j0 j1 hj => ?_⟩
          by_cases e : j = k
          · rw [e]; omega
          · exact h j j0 (by omega) hj
      · rw [hw] at z
        have z := of_decide_eq_false (Bool.eq_false_iff.mpr z)
        refine wp_some ⟨l0, l1, l2, fun j j0 j1 hj => ?_⟩
        by_cases e : j = k
        · rw [e] at hj; exact absurd hj z
        · exact h j j0 (by omega) hj
    · refine wp_ir ⟨hτ, hf, hc, l0, l1, l2, ?_⟩
      have e : k = σ kR_spots 0 := by omega
      rw [e] at h; exact h
  rintro ⟨m, kk, σ2⟩ - ⟨h2, f2, c2, m0, m1, m2, mm⟩
  dsimp only at h2 f2 c2 m0 m1 m2 mm ⊢
  have hmk : ∀ x, 0 ≤ x → x < σ kR_spots 0 → x ≠ m → CI σ a b c x = 0 → FI σ m < FI σ x := by
    intro x x0 x1 xn xc
    have p := mm x x0 x1 xc
    have q : FI σ m ≠ FI σ x := fun e => xn (hd m x m0 m1 x0 x1 e).symm
    omega
  rw [w32_of (x := m) (by omega) (by omega)]
  -- the others in their order
  refine wp_bd (P := fun s => II s.2 ∧ FR [kR_circleMany, kR_limbs, kR_onCircle, kR_sign, kR_w] σ s.2 ∧ 0 ≤ s.2 kR_circleMany 0 ∧ s.2 kR_circleMany 0 ≤ σ kR_spots 0 - 1 ∧ LSo σ a b c m (s.2 kR_onCircle) (s.2 kR_circleMany 0) (σ kR_spots 0)) ?_ ?_
  · refine wp_whl (fun s => 0 ≤ s.1 ∧ s.1 ≤ σ kR_spots 0 ∧ II s.2 ∧ FR [kR_circleMany, kR_limbs, kR_onCircle, kR_sign, kR_w] σ s.2 ∧ 0 ≤ s.2 kR_circleMany 0 ∧ s.2 kR_circleMany 0 ≤ s.1 ∧ (m < s.1 → s.2 kR_circleMany 0 ≤ s.1 - 1) ∧ LSo σ a b c m (s.2 kR_onCircle) (s.2 kR_circleMany 0) s.1) (fun s => (σ kR_spots 0 - s.1).toNat) ⟨Int.le_refl 0, by dsimp only; omega, h2, f2, by dsimp only; omega, by dsimp only; omega, fun z => by dsimp only at z ⊢; omega, fun i i0 i1 => by dsimp only at i1; omega, fun i j i0 ij j1 => by dsimp only at j1; omega, fun q q0 q1 => by dsimp only at q1; omega⟩ ?_
    rintro ⟨k, τ⟩ ⟨k0, k1, hτ, hf, C0, C1, C2, hL⟩
    dsimp only at k0 k1 hτ hf C0 C1 C2 hL ⊢
    have sp := SP_fr hf (by decide) (by decide) (by decide)
    simp only [sp.2.2]
    rw [w32_of (x := k) (by omega) (by omega), w32_of (x := σ kR_spots 0) (by omega) (by omega)]
    refine wp_if (fun g => ?_) (fun g => ?_)
    · refine wp_bd (v_onC sp hτ a0 (by omega) b0 (by omega) c0 (by omega) k0 (by omega)) ?_
      rintro ⟨w, υ⟩ - ⟨hυ, fυ, hw⟩
      dsimp only at hυ fυ hw ⊢
      have fυ2 := FR5 hf (FR35 fυ)
      have sp2 := SP_fr fυ2 (by decide) (by decide) (by decide)
      have cu : υ kR_circleMany 0 = τ kR_circleMany 0 := FR_at fυ (by decide) 0
      have ou : υ kR_onCircle = τ kR_onCircle := fυ kR_onCircle (by decide)
      rw [← ou, ← cu] at hL
      rw [← cu] at C0 C1 C2
      clear ou cu
      refine wp_if (fun z => ?_) (fun z => ?_)
      · refine wp_il ⟨⟨by dsimp only; omega, by dsimp only; omega, hυ, fυ2, C0, by dsimp only; omega, fun q => ?_, ?_⟩, by dsimp only; omega⟩
        · dsimp only at q ⊢
          rcases z with z | z
          · by_cases e : m < k
            · have := C2 e; omega
            · exfalso
              have : m = k := by omega
              rw [hw, ← this] at z
              exact z (decide_eq_true m2)
          · omega
        · dsimp only
          obtain ⟨L1, L2, L3⟩ := hL
          refine ⟨fun i i0 i1 => ?_, L2, fun q q0 q1 qn qc => ?_⟩
          · obtain ⟨p1, p2, p3, p4⟩ := L1 i i0 i1
            exact ⟨p1, by omega, p3, p4⟩
          · by_cases e : q = k
            · exfalso
              rcases z with z | z
              · rw [hw, ← e] at z; exact z (decide_eq_true qc)
              · exact qn (e.trans z)
            · exact L3 q q0 (by omega) qn qc
      · have zm : k ≠ m := fun e => z (Or.inr e)
        have zc : CI σ a b c k = 0 := by
          by_cases e : w = true
          · rw [hw] at e; exact of_decide_eq_true e
          · exact absurd (Or.inl e) z
        have fk := hmk k k0 g zm zc
        obtain ⟨L1, L2, L3⟩ := hL
        generalize hC : υ kR_circleMany 0 = C at *
        have hCk : C ≤ 1023 := by omega
        -- insertion
        refine wp_bd (P := fun s => II s.2 ∧ FR [kR_circleMany, kR_limbs, kR_onCircle, kR_sign, kR_w] σ s.2 ∧ s.2 kR_circleMany 0 = C ∧ 0 ≤ s.1 ∧ s.1 ≤ C ∧ (∀ j, 0 ≤ j → j < s.1 → s.2 kR_onCircle j = υ kR_onCircle j) ∧ (∀ j, s.1 < j → j ≤ C → s.2 kR_onCircle j = υ kR_onCircle (j - 1)) ∧ (∀ j, s.1 ≤ j → j < C → 0 < OI σ m k (υ kR_onCircle j)) ∧ (0 < s.1 → OI σ m k (υ kR_onCircle (s.1 - 1)) ≤ 0)) ?_ ?_
        · refine wp_whl (fun s => II s.2 ∧ FR [kR_circleMany, kR_limbs, kR_onCircle, kR_sign, kR_w] σ s.2 ∧ s.2 kR_circleMany 0 = C ∧ 0 ≤ s.1 ∧ s.1 ≤ C ∧ (∀ j, 0 ≤ j → j < s.1 → s.2 kR_onCircle j = υ kR_onCircle j) ∧ (∀ j, s.1 < j → j ≤ C → s.2 kR_onCircle j = υ kR_onCircle (j - 1)) ∧ (∀ j, s.1 ≤ j → j < C → 0 < OI σ m k (υ kR_onCircle j))) (fun s => s.1.toNat) ⟨hυ, fυ2, hC, C0, by dsimp only; omega, fun j _ _ => rfl, fun j j0 j1 => by dsimp only at j0; omega, fun j j0 j1 => by dsimp only at j0; omega⟩ ?_
          rintro ⟨i, ω⟩ ⟨hω, fω, hCω, i0, i1, A1, A2, A3⟩
          dsimp only at hω fω hCω i0 i1 A1 A2 A3 ⊢
          have sp3 := SP_fr fω (by decide) (by decide) (by decide)
          rw [w32_of (x := i) (by omega) (by omega)]
          refine wp_if (fun p => ?_) (fun p => ?_)
          · rw [w32_of (x := i - 1) (by omega) (by omega)]
            refine wp_rd (by omega) (by omega) ?_
            rw [A1 (i - 1) (by omega) (by omega)]
            obtain ⟨p1, p2, p3, p4⟩ := L1 (i - 1) (by omega) (by omega)
            refine wp_bd (v_turnOf hω m0 (by omega) k0 (by omega) p1 (by omega)) ?_
            rintro t - ⟨t0, t1, t2, t3, t4⟩
            rw [SP_O sp3] at t2 t3 t4
            rw [w32_of (x := t) (by omega) (by omega)]
            refine wp_if (fun r => ?_) (fun r => ?_)
            · refine wp_rd (by omega) (by omega) ?_
              rw [A1 (i - 1) (by omega) (by omega)]
              refine wp_waI hω b_kR_onCircle (by omega) (by omega) (by omega) (fun ψ hψ e => ?_)
              have fψ : FR [kR_circleMany, kR_limbs, kR_onCircle, kR_sign, kR_w] σ ψ := FR_tr fω (FR_sg e) (by decide) (by decide)
              refine wp_il ⟨⟨hψ, fψ, by show ψ kR_circleMany 0 = C; rw [e, sg_nc (by decide)]; exact hCω, by dsimp only; omega, by dsimp only; omega, fun j j0 j1 => ?_, fun j j0 j1 => ?_, fun j j0 j1 => ?_⟩, by dsimp only; omega⟩
              · dsimp only at j1 ⊢
                rw [e, sg_ni (by omega)]; exact A1 j j0 (by omega)
              · dsimp only at j0 ⊢
                by_cases q : j = i
                · rw [q, e, sg_at]
                · rw [e, sg_ni q]; exact A2 j (by omega) j1
              · dsimp only at j0
                by_cases q : j = i - 1
                · rw [q]; exact t2.mp r
                · exact A3 j (by omega) j1
            · exact wp_ir ⟨hω, fω, hCω, i0, i1, A1, A2, A3, fun _ => by dsimp only; omega⟩
          · exact wp_ir ⟨hω, fω, hCω, i0, i1, A1, A2, A3, fun q => absurd q p⟩
        · rintro ⟨i, ω⟩ - ⟨hω, fω, hCω, i0, i1, A1, A2, A3, A4⟩
          dsimp only at hω fω hCω i0 i1 A1 A2 A3 A4 ⊢
          rw [w32_of (x := i) (by omega) (by omega)]
          refine wp_waI hω b_kR_onCircle (by omega) (by omega) (by omega) (fun ψ hψ e => ?_)
          have fψ : FR [kR_circleMany, kR_limbs, kR_onCircle, kR_sign, kR_w] σ ψ := FR_tr fω (FR_sg e) (by decide) (by decide)
          have hCψ : ψ kR_circleMany 0 = C := by rw [e, sg_nc (by decide)]; exact hCω
          rw [hCψ]
          refine wp_wfI hψ b_kR_circleMany (by omega) (fun φ hφ e2 => ?_)
          have fφ : FR [kR_circleMany, kR_limbs, kR_onCircle, kR_sign, kR_w] σ φ := FR_tr fψ (FR_sg e2) (by decide) (by decide)
          have hCφ : φ kR_circleMany 0 = C + 1 := sg_val e2
          have on : ∀ j, φ kR_onCircle j = if j = i then k else ω kR_onCircle j := by
            intro j
            rw [e2, sg_nc (by decide), e]
            by_cases q : j = i
            · rw [if_pos q, q, sg_at]
            · rw [if_neg q, sg_ni q]
          have val : ∀ j, 0 ≤ j → j < C + 1 → φ kR_onCircle j = if j = i then k else if j < i then υ kR_onCircle j else υ kR_onCircle (j - 1) := by
            intro j j0 j1
            rw [on]
            by_cases q : j = i
            · rw [if_pos q, if_pos q]
            · rw [if_neg q, if_neg q]
              by_cases r : j < i
              · rw [if_pos r]; exact A1 j j0 r
              · rw [if_neg r]; exact A2 j (by omega) (by omega)
          have below : ∀ j, 0 ≤ j → j < i → 0 < OI σ m (υ kR_onCircle j) k := by
            intro j j0 j1
            have hlast : 0 < OI σ m (υ kR_onCircle (i - 1)) k := by
              obtain ⟨p1, p2, p3, p4⟩ := L1 (i - 1) (by omega) (by omega)
              have n0 := CI_nl hd h0 m2 zc p4 m0 m1 k0 g p1 (by omega) (fun q => zm q.symm) (fun q => p3 q.symm) (by omega)
              have n1 := A4 (by omega)
              have := OI_as σ m k (υ kR_onCircle (i - 1))
              omega
            by_cases q : j = i - 1
            · rw [q]; exact hlast
            · obtain ⟨p1, p2, p3, p4⟩ := L1 (i - 1) (by omega) (by omega)
              obtain ⟨q1, q2, q3, q4⟩ := L1 j j0 (by omega)
              exact (OI_tr (hmk _ q1 (by omega) q3 q4) (hmk _ p1 (by omega) p3 p4) fk).1 (L2 j (i - 1) j0 (by omega) (by omega)) hlast
          refine wp_il ⟨⟨by dsimp only; omega, by dsimp only; omega, hφ, fφ, by dsimp only; omega, by dsimp only; omega, fun q => ?_, ?_⟩, by dsimp only; omega⟩
          · dsimp only at q ⊢
            rw [hCφ]
            have := C2 (by omega); omega
          · dsimp only
            rw [hCφ]
            refine ⟨fun j j0 j1 => ?_, fun j l j0 jl l1 => ?_, fun q q0 q1 qn qc => ?_⟩
            · rw [val j j0 j1]
              split
              · exact ⟨k0, by omega, zm, zc⟩
              · split
                · obtain ⟨p1, p2, p3, p4⟩ := L1 j j0 (by omega); exact ⟨p1, by omega, p3, p4⟩
                · obtain ⟨p1, p2, p3, p4⟩ := L1 (j - 1) (by omega) (by omega); exact ⟨p1, by omega, p3, p4⟩
            · rw [val j j0 (by omega), val l (by omega) l1]
              by_cases q1 : j = i
              · rw [if_pos q1, if_neg (by omega), if_neg (by omega)]; exact A3 (l - 1) (by omega) (by omega)
              · rw [if_neg q1]
                by_cases q2 : l = i
                · rw [if_pos (by omega), if_pos q2]; exact below j j0 (by omega)
                · rw [if_neg q2]
                  by_cases q3 : j < i
                  · rw [if_pos q3]
                    by_cases q4 : l < i
                    · rw [if_pos q4]; exact L2 j l j0 jl (by omega)
                    · rw [if_neg q4]; exact L2 j (l - 1) j0 (by omega) (by omega)
                  · rw [if_neg q3, if_neg (by omega)]; exact L2 (j - 1) (l - 1) (by omega) (by omega) (by omega)
            · by_cases e3 : q = k
              · exact ⟨i, i0, by omega, by rw [val i i0 (by omega), if_pos rfl, e3]⟩
              · obtain ⟨j, j0, j1, j2⟩ := L3 q q0 (by omega) qn qc
                by_cases q4 : j < i
                · exact ⟨j, j0, by omega, by rw [val j j0 (by omega), if_neg (by omega), if_pos q4]; exact j2⟩
                · exact ⟨j + 1, by omega, by omega, by rw [val (j + 1) (by omega) (by omega), if_neg (by omega), if_neg (by omega), Int.add_sub_cancel]; exact j2⟩
    · have e : k = σ kR_spots 0 := by omega
      rw [e] at hL
      exact wp_ir ⟨hτ, hf, C0, by have := C2 (by omega); dsimp only; omega, hL⟩
  rintro ⟨k, σ3⟩ - ⟨h3, f3, C0, C1, L1, L2, L3⟩
  dsimp only at h3 f3 C0 C1 L1 L2 L3 ⊢
  generalize hC : σ3 kR_circleMany 0 = C at *
  -- all one place up
  refine wp_bd (P := fun s => II s.2 ∧ FR [kR_circleMany, kR_limbs, kR_onCircle, kR_sign, kR_w] σ s.2 ∧ s.2 kR_circleMany 0 = C ∧ ∀ j, 0 < j → j ≤ C → s.2 kR_onCircle j = σ3 kR_onCircle (j - 1)) ?_ ?_
  · refine wp_whl (fun s => II s.2 ∧ FR [kR_circleMany, kR_limbs, kR_onCircle, kR_sign, kR_w] σ s.2 ∧ s.2 kR_circleMany 0 = C ∧ 0 ≤ s.1 ∧ s.1 ≤ C ∧ (∀ j, 0 ≤ j → j ≤ s.1 → j < C → s.2 kR_onCircle j = σ3 kR_onCircle j) ∧ (∀ j, s.1 < j → j ≤ C → s.2 kR_onCircle j = σ3 kR_onCircle (j - 1))) (fun s => s.1.toNat) ⟨h3, f3, hC, C0, Int.le_refl _, fun j _ _ _ => rfl, fun j j0 j1 => by dsimp only at j0; omega⟩ ?_
    rintro ⟨i, ω⟩ ⟨hω, fω, hCω, i0, i1, A1, A2⟩
    dsimp only at hω fω hCω i0 i1 A1 A2 ⊢
    rw [w32_of (x := i) (by omega) (by omega)]
    refine wp_if (fun p => ?_) (fun p => ?_)
    · rw [w32_of (x := i - 1) (by omega) (by omega)]
      refine wp_rd (by omega) (by omega) ?_
      rw [A1 (i - 1) (by omega) (by omega) (by omega)]
      have bo := ii_kR_onCircle h3 (i - 1)
      refine wp_waI hω b_kR_onCircle (by omega) (by omega) (by omega) (fun ψ hψ e => ?_)
      have fψ : FR [kR_circleMany, kR_limbs, kR_onCircle, kR_sign, kR_w] σ ψ := FR_tr fω (FR_sg e) (by decide) (by decide)
      refine wp_il ⟨⟨hψ, fψ, by show ψ kR_circleMany 0 = C; rw [e, sg_nc (by decide)]; exact hCω, by dsimp only; omega, by dsimp only; omega, fun j j0 j1 j2 => ?_, fun j j0 j1 => ?_⟩, by dsimp only; omega⟩
      · dsimp only at j1 ⊢
        rw [e, sg_ni (by omega)]; exact A1 j j0 (by omega) j2
      · dsimp only at j0 ⊢
        by_cases q : j = i
        · rw [q, e, sg_at]
        · rw [e, sg_ni q]; exact A2 j (by omega) j1
    · exact wp_ir ⟨hω, fω, hCω, fun j j0 j1 => A2 j (by omega) j1⟩
  rintro ⟨i, ω⟩ - ⟨hω, fω, hCω, A2⟩
  dsimp only at hω fω hCω A2 ⊢
  refine wp_waI hω b_kR_onCircle (by decide) (by decide) (by omega) (fun ψ hψ e => ?_)
  have fψ : FR [kR_circleMany, kR_limbs, kR_onCircle, kR_sign, kR_w] σ ψ := FR_tr fω (FR_sg e) (by decide) (by decide)
  have hCψ : ψ kR_circleMany 0 = C := by rw [e, sg_nc (by decide)]; exact hCω
  rw [hCψ]
  refine wp_wfI hψ b_kR_circleMany (by omega) (fun φ hφ e2 => ?_)
  have fφ : FR [kR_circleMany, kR_limbs, kR_onCircle, kR_sign, kR_w] σ φ := FR_tr fψ (FR_sg e2) (by decide) (by decide)
  have hCφ : φ kR_circleMany 0 = C + 1 := sg_val e2
  have v0 : φ kR_onCircle 0 = m := by rw [e2, sg_nc (by decide), e, sg_at]
  have vj : ∀ j, 0 < j → j ≤ C → φ kR_onCircle j = σ3 kR_onCircle (j - 1) := by
    intro j j0 j1
    rw [e2, sg_nc (by decide), e, sg_ni (by omega)]; exact A2 j j0 j1
  refine wp_some ⟨hφ, fφ, ?_⟩
  rw [hCφ]
  have all : ∀ k, 0 ≤ k → k < σ kR_spots 0 → CI σ a b c k = 0 → ∃ i, 0 ≤ i ∧ i < C + 1 ∧ φ kR_onCircle i = k := by
    intro k k0 k1 kc
    by_cases q : k = m
    · exact ⟨0, Int.le_refl 0, by omega, by rw [v0, q]⟩
    · obtain ⟨j, j0, j1, j2⟩ := L3 k k0 k1 q kc
      exact ⟨j + 1, by omega, by omega, by rw [vj (j + 1) (by omega) (by omega), Int.add_sub_cancel]; exact j2⟩
  refine ⟨?_, by omega, fun j j0 j1 => ?_, all, fun j j0 j1 => ?_, fun j l j0 jl l1 => ?_⟩
  · obtain ⟨ia, a2, a3, a4⟩ := all a a0 a1 (CI_a _ _ _ _)
    obtain ⟨ib, b2, b3, b4⟩ := all b b0 b1 (CI_b _ _ _ _)
    obtain ⟨ic, c2, c3, c4⟩ := all c c0 c1 (CI_c _ _ _ _)
    have nab : a ≠ b := by intro q; rw [q] at h0; unfold OI oi_ at h0; grind
    have nbc : b ≠ c := by intro q; rw [q, OI_0] at h0; omega
    have nac : a ≠ c := by intro q; rw [q, OI_0b] at h0; omega
    have : ia ≠ ib := fun q => nab (by rw [← a4, ← b4, q])
    have : ib ≠ ic := fun q => nbc (by rw [← b4, ← c4, q])
    have : ia ≠ ic := fun q => nac (by rw [← a4, ← c4, q])
    omega
  · by_cases q : j = 0
    · rw [q, v0]; exact ⟨m0, m1, m2⟩
    · rw [vj j (by omega) (by omega)]
      obtain ⟨p1, p2, p3, p4⟩ := L1 (j - 1) (by omega) (by omega)
      exact ⟨p1, p2, p4⟩
  · rw [v0, vj j (by omega) (by omega)]
    obtain ⟨p1, p2, p3, p4⟩ := L1 (j - 1) (by omega) (by omega)
    exact hmk _ p1 p2 p3 p4
  · rw [v0, vj j (by omega) (by omega), vj l (by omega) (by omega)]
    exact L2 (j - 1) (l - 1) (by omega) (by omega) (by omega)
end TRC
