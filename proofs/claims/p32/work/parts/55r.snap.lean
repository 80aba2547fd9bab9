section SNR
/-- what is on the way, by place and by number -/
def WYs (τ : SG) : Prop := (∀ v, 0 ≤ v → v < τ kR_hots 0 → (τ kR_onWay v = -1 ∨ (0 ≤ τ kR_onWay v ∧ τ kR_onWay v < τ kR_wayMany 0 ∧ τ kR_way (τ kR_onWay v) = v))) ∧ (∀ i, 0 ≤ i → i < τ kR_wayMany 0 → (0 ≤ τ kR_way i ∧ τ kR_way i < τ kR_hots 0) ∧ τ kR_onWay (τ kR_way i) = i) ∧ ct_ (τ kR_hots 0).toNat (fun v : Nat => decide (τ kR_onWay v ≠ -1)) = (τ kR_wayMany 0).toNat
/-- rings told, their corners, and the way: so many edges were gone -/
def ACs (τ : SG) (S D : Int) : Prop := 2 * τ kR_outs 0 ≤ S ∧ τ kR_corners 0 ≤ S ∧ S + τ kR_wayMany 0 ≤ D
theorem v_comes {τ : SG} {at_ S D : Int} (hτ : II τ) (hw : WYs τ) (oc : OC τ) (ho_ : HO τ) (a0 : 0 ≤ at_) (a1 : at_ < τ kR_hots 0) (hl : τ kR_onWay at_ ≠ -1 → τ kR_onWay at_ + 1 < τ kR_wayMany 0) (ac : ACs τ S D) (hD : D ≤ 16384) : wp_ (fR_comes τ at_) (fun υ => II υ ∧ FR [kR_corner, kR_corners, kR_onWay, kR_outArea, kR_outFrom, kR_outMany, kR_outs, kR_way, kR_wayMany] τ υ ∧ WYs υ ∧ OC υ ∧ (∃ S', ACs υ S' (D + 1)) ∧ 1 ≤ υ kR_wayMany 0 ∧ υ kR_way (υ kR_wayMany 0 - 1) = at_) := by
  unfold fR_comes
  have bh := ii_kR_hots hτ 0
  have bw := ii_kR_wayMany hτ 0
  obtain ⟨w1, w2, w3⟩ := id hw
  obtain ⟨ac1, ac2, ac3⟩ := ac
  generalize hM : τ kR_wayMany 0 = M at *
  rw [w32_of (x := at_) (by omega) (by omega)]
  refine wp_rd a0 (by omega) ?_
  have bo := ii_kR_onWay hτ at_
  rw [w32_of (x := τ kR_onWay at_) (by omega) (by omega)]
  refine wp_if (fun g => ?_) (fun g => ?_)
  · -- a new one
    have cu := ct_up (m := (τ kR_hots 0).toNat) (z := at_.toNat) (f := fun v : Nat => decide (τ kR_onWay v ≠ -1) || v == at_.toNat) (g := fun v : Nat => decide (τ kR_onWay v ≠ -1)) (by omega) (fun j _ hj => by
      have : (j == at_.toNat) = false := by rw [beq_eq_false_iff_ne]; exact hj
      rw [this, Bool.or_false]) (by simp) (by
      rw [show ((at_.toNat : Nat) : Int) = at_ by omega, g]; decide)
    have cm := ct_m (fun v : Nat => decide (τ kR_onWay v ≠ -1) || v == at_.toNat) (τ kR_hots 0).toNat
    refine wp_waI hτ b_kR_onWay (by omega) (by omega) (by omega) (fun σ1 h1 e1 => ?_)
    have m1 : σ1 kR_wayMany 0 = M := by rw [e1, sg_nc (by decide)]; exact hM
    rw [m1, w32_of (x := M) (by omega) (by omega)]
    refine wp_waI h1 b_kR_way (by omega) (by omega) (by omega) (fun σ2 h2 e2 => ?_)
    have m2 : σ2 kR_wayMany 0 = M := by rw [e2, sg_nc (by decide)]; exact m1
    rw [m2]
    refine wp_wfI h2 b_kR_wayMany (by omega) (fun σ3 h3 e3 => wp_some ?_)
    have m3 : σ3 kR_wayMany 0 = M + 1 := sg_val e3
    have o3 : ∀ v, σ3 kR_onWay v = if v = at_ then M else τ kR_onWay v := by
      intro v
      rw [e3, sg_nc (by decide), e2, sg_nc (by decide), e1]
      by_cases q : v = at_
      · rw [if_pos q, q, sg_at]
      · rw [if_neg q, sg_ni q]
    have y3 : ∀ i, σ3 kR_way i = if i = M then at_ else τ kR_way i := by
      intro i
      rw [e3, sg_nc (by decide), e2]
      by_cases q : i = M
      · rw [if_pos q, q, sg_at]
      · rw [if_neg q, sg_ni q, e1, sg_nc (by decide)]
    have F3 : FR [kR_onWay, kR_way, kR_wayMany] τ σ3 := FR_tr (FR_tr (FR_sg e1) (FR_sg e2) (by decide) (by decide) : FR [kR_onWay, kR_way] τ σ2) (FR_sg e3) (by decide) (by decide)
    have z1 : σ3 kR_hots 0 = τ kR_hots 0 := FR_at F3 (by decide) 0
    have z2 : σ3 kR_outs 0 = τ kR_outs 0 := FR_at F3 (by decide) 0
    have z3 : σ3 kR_corners 0 = τ kR_corners 0 := FR_at F3 (by decide) 0
    refine ⟨h3, FR_le F3 (by decide), ⟨fun v v0 v1 => ?_, fun i i0 i1 => ?_, ?_⟩, ?_, ⟨S, by unfold ACs; omega⟩, by omega, ?_⟩
    · rw [z1] at v1
      rw [m3, o3]
      by_cases q : v = at_
      · rw [if_pos q]; exact Or.inr ⟨by omega, by omega, by rw [y3, if_pos rfl, q]⟩
      · rw [if_neg q]
        rcases w1 v v0 v1 with r | ⟨r1, r2, r3⟩
        · exact Or.inl r
        · exact Or.inr ⟨r1, by omega, by rw [y3, if_neg (by omega)]; exact r3⟩
    · rw [m3] at i1
      rw [z1, y3]
      by_cases q : i = M
      · rw [if_pos q]; exact ⟨⟨a0, a1⟩, by rw [o3, if_pos rfl, q]⟩
      · rw [if_neg q]
        obtain ⟨r1, r2⟩ := w2 i i0 (by omega)
        exact ⟨r1, by rw [o3, if_neg (fun z => by rw [z, g] at r2; omega)]; exact r2⟩
    · rw [z1, m3, show (M + 1).toNat = M.toNat + 1 by omega, ← w3, ← cu]
      refine ct_cg (fun j hj => ?_)
      rw [o3]
      by_cases q : (j : Int) = at_
      · rw [if_pos q, show (j == at_.toNat) = true by rw [beq_iff_eq]; omega, Bool.or_true]
        exact decide_eq_true (by omega)
      · rw [if_neg q, show (j == at_.toNat) = false by rw [beq_eq_false_iff_ne]; omega, Bool.or_false]
    · unfold OC
      rw [z2, z3]
      intro s s0 s1
      rw [FR_at F3 (c := kR_outFrom) (by decide), FR_at F3 (c := kR_outMany) (by decide), FR_at F3 (c := kR_outArea) (by decide)]
      exact oc s s0 s1
    · rw [m3, show M + 1 - 1 = M by omega, y3, if_pos rfl]
  · -- a ring
    have hl := hl g
    obtain ⟨q1, q2, q3⟩ : 0 ≤ τ kR_onWay at_ ∧ τ kR_onWay at_ < M ∧ τ kR_way (τ kR_onWay at_) = at_ := by
      rcases w1 at_ a0 a1 with r | r
      · exact absurd r g
      · exact r
    generalize hI : τ kR_onWay at_ = I at *
    refine wp_bd (v_ring hτ q1 (by rw [hM]; exact q2) (by omega) (by rw [hM]; omega) oc ho_ (fun i j i0 i1 j0 j1 e => by
      rw [hM] at i1 j1
      have e1 := (w2 i (by omega) i1).2
      have e2 := (w2 j (by omega) j1).2
      rw [← e1, ← e2, e]) (fun i i0 i1 => by rw [hM] at i1; exact (w2 i (by omega) i1).1)) ?_
    rintro σ1 - ⟨rg, h1, f1, o1, c1, c2, oc1⟩
    rw [hM] at c2
    have x1 : ∀ v, σ1 kR_onWay v = τ kR_onWay v := FR_at f1 (by decide)
    have x2 : ∀ v, σ1 kR_way v = τ kR_way v := FR_at f1 (by decide)
    have x3 : σ1 kR_wayMany 0 = M := by rw [FR_at f1 (by decide) 0]; exact hM
    have x4 : σ1 kR_hots 0 = τ kR_hots 0 := FR_at f1 (by decide) 0
    have wy1 : WYs σ1 := by
      unfold WYs
      simp only [x1, x2, x3, x4]
      exact ⟨w1, w2, w3⟩
    refine wp_bd (P := fun υ => II υ ∧ FR [kR_onWay, kR_wayMany] σ1 υ ∧ WYs υ ∧ υ kR_wayMany 0 = I + 1) ?_ ?_
    · refine wp_whl (fun υ => II υ ∧ FR [kR_onWay, kR_wayMany] σ1 υ ∧ WYs υ ∧ I + 1 ≤ υ kR_wayMany 0 ∧ υ kR_wayMany 0 ≤ M) (fun υ => (υ kR_wayMany 0).toNat) ⟨h1, FR_refl _ _, wy1, by omega, by omega⟩ ?_
      rintro υ ⟨hυ, fυ, ⟨y1, y2, y3⟩, g0, g1⟩
      generalize hK : υ kR_wayMany 0 = K at *
      rw [w32_of (x := I + 1) (by omega) (by omega), w32_of (x := K) (by omega) (by omega)]
      refine wp_if (fun gk => ?_) (fun gk => wp_ir ⟨hυ, fυ, ⟨by rw [hK]; exact y1, by rw [hK]; exact y2, by rw [hK]; exact y3⟩, by omega⟩)
      refine wp_wfI hυ b_kR_wayMany (by omega) (fun σ2 h2 e2 => ?_)
      have k2 : σ2 kR_wayMany 0 = K - 1 := sg_val e2
      rw [k2, w32_of (x := K - 1) (by omega) (by omega)]
      refine wp_rd (by omega) (by omega) ?_
      have wz : ∀ j, σ2 kR_way j = υ kR_way j := fun j => by rw [e2, sg_nc (by decide)]
      rw [wz]
      obtain ⟨⟨t1, t2⟩, t3⟩ := y2 (K - 1) (by omega) (by omega)
      have hh : υ kR_hots 0 = τ kR_hots 0 := by rw [FR_at fυ (by decide) 0]; exact x4
      generalize hV : υ kR_way (K - 1) = V at *
      rw [w32_of (x := V) (by omega) (by omega)]
      refine wp_waI h2 b_kR_onWay (by omega) (by omega) (by omega) (fun σ3 h3 e3 => ?_)
      have k3 : σ3 kR_wayMany 0 = K - 1 := by rw [e3, sg_nc (by decide)]; exact k2
      have o3 : ∀ v, σ3 kR_onWay v = if v = V then -1 else υ kR_onWay v := by
        intro v
        rw [e3]
        by_cases q : v = V
        · rw [if_pos q, q, sg_at]
        · rw [if_neg q, sg_ni q, e2, sg_nc (by decide)]
      have wz3 : ∀ j, σ3 kR_way j = υ kR_way j := fun j => by rw [e3, sg_nc (by decide)]; exact wz j
      have hz3 : σ3 kR_hots 0 = υ kR_hots 0 := by rw [e3, sg_nc (by decide), e2, sg_nc (by decide)]
      refine wp_il ⟨⟨h3, FR_tr (FR_tr fυ (FR_sg e2) (by decide) (by decide) : FR [kR_onWay, kR_wayMany] σ1 σ2) (FR_sg e3) (by decide) (by decide), ⟨fun v v0 v1 => ?_, fun i i0 i1 => ?_, ?_⟩, by omega, by omega⟩, by omega⟩
      · rw [hz3] at v1
        rw [k3, o3]
        by_cases q : v = V
        · rw [if_pos q]; exact Or.inl rfl
        · rw [if_neg q]
          rcases y1 v v0 v1 with r | ⟨r1, r2, r3⟩
          · exact Or.inl r
          · refine Or.inr ⟨r1, ?_, by rw [wz3]; exact r3⟩
            by_cases z : υ kR_onWay v = K - 1
            · rw [z, hV] at r3; exact absurd r3.symm q
            · omega
      · rw [k3] at i1
        obtain ⟨r1, r2⟩ := y2 i i0 (by omega)
        rw [hz3, wz3, o3]
        exact ⟨r1, by rw [if_neg (fun z => by rw [z, t3] at r2; omega)]; exact r2⟩
      · rw [hz3, k3]
        have cd := ct_up (m := (υ kR_hots 0).toNat) (z := V.toNat) (f := fun v : Nat => decide (υ kR_onWay v ≠ -1)) (g := fun v : Nat => decide (σ3 kR_onWay v ≠ -1)) (by omega) (fun j _ hj => by
          rw [o3, if_neg (by omega)]) (by
          rw [show ((V.toNat : Nat) : Int) = V by omega, t3]
          exact decide_eq_true (by omega)) (by
          rw [show ((V.toNat : Nat) : Int) = V by omega, o3, if_pos rfl]; decide)
        rw [y3] at cd
        omega
    rintro υ - ⟨hυ, fυ, wυ, kυ⟩
    have z2 : υ kR_outs 0 = σ1 kR_outs 0 := FR_at fυ (by decide) 0
    have z3 : υ kR_corners 0 = σ1 kR_corners 0 := FR_at fυ (by decide) 0
    refine wp_some ⟨hυ, FR_tr f1 fυ (by decide) (by decide), wυ, ?_, ⟨S + (M - I), by unfold ACs; omega⟩, by omega, ?_⟩
    · unfold OC
      rw [z2, z3]
      intro s s0 s1
      rw [FR_at fυ (c := kR_outFrom) (by decide), FR_at fυ (c := kR_outMany) (by decide), FR_at fυ (c := kR_outArea) (by decide)]
      exact oc1 s s0 s1
    · rw [kυ, show I + 1 - 1 = I by omega, FR_at fυ (by decide), x2]; exact q3
end SNR
