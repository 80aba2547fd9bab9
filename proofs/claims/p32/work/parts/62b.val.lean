section CVM
theorem sv_1 {sa sb f s A B : Int} (ha : -1 ≤ sa ∧ sa ≤ 1) (hb : -1 ≤ sb ∧ sb ≤ 1) (hf : f = 1 ∨ f = -1) (za : sa = 0 → A = 0) (zb : sb = 0 → B = 0) (h : 0 ≤ sa * (sb * f)) (s1 : sa = 0 → s = sb * f) (s2 : sa ≠ 0 → s = sa) : s * (A + 1 * B) = sa * A + f * (sb * B) ∧ (s = 0 → A + 1 * B = 0) ∧ -1 ≤ s ∧ s ≤ 1 := by
  have hs : s = -1 ∨ s = 0 ∨ s = 1 := by
    by_cases q : sa = 0
    · have h1 := s1 q
      rcases hf with rfl | rfl <;> omega
    · have h1 := s2 q
      omega
  rcases (show sa = -1 ∨ sa = 0 ∨ sa = 1 by omega) with rfl | rfl | rfl <;> rcases (show sb = -1 ∨ sb = 0 ∨ sb = 1 by omega) with rfl | rfl | rfl <;> rcases hf with rfl | rfl <;> rcases hs with rfl | rfl | rfl <;> omega
theorem sv_2 {sa sb f A B : Int} (ha : -1 ≤ sa ∧ sa ≤ 1) (hb : -1 ≤ sb ∧ sb ≤ 1) (hf : f = 1 ∨ f = -1) (h : ¬ 0 ≤ sa * (sb * f)) : sa * (A + -1 * B) = sa * A + f * (sb * B) ∧ (sb * f) * (B + -1 * A) = sa * A + f * (sb * B) ∧ sa ≠ 0 ∧ sb * f ≠ 0 ∧ -1 ≤ sb * f ∧ sb * f ≤ 1 := by
  rcases (show sa = -1 ∨ sa = 0 ∨ sa = 1 by omega) with rfl | rfl | rfl <;> rcases (show sb = -1 ∨ sb = 0 ∨ sb = 1 by omega) with rfl | rfl | rfl <;> rcases hf with rfl | rfl <;> omega
theorem v_I_addSigned {σ : SG} {t a b f : Int} (hσ : II σ) (t0 : 0 ≤ t) (t1 : t < 16) (a0 : 0 ≤ a) (a1 : a < 16) (b0 : 0 ≤ b) (b1 : b < 16) (ta : a ≠ t) (tb : b ≠ t) (hf : f = 1 ∨ f = -1) (ha : σ kI_used a ≤ 279) (hb : σ kI_used b ≤ 279) (na : CNR σ a) (nb : CNR σ b) : wp_ (fI_addSigned σ t a b f) (fun τ => CNR τ t ∧ τ kI_sign t * qz_ τ t = σ kI_sign a * qz_ σ a + f * (σ kI_sign b * qz_ σ b) ∧ (τ kI_used t ≤ σ kI_used a + 1 ∨ τ kI_used t ≤ σ kI_used b + 1) ∧ CFr t σ τ) := by
  unfold fI_addSigned
  have la := ii_kI_used hσ a
  have lb := ii_kI_used hσ b
  have sa := ii_kI_sign hσ a
  have sb := ii_kI_sign hσ b
  have qa := qz_nn σ a
  have qb := qz_nn σ b
  rw [w32_of (x := a) (by omega) (by omega), w32_of (x := b) (by omega) (by omega), w32_of (x := t) (by omega) (by omega)]
  refine wp_rd b0 b1 ?_
  refine wp_bd (P := fun τ => II τ ∧ (τ kI_sign t = 0 → qz_ τ t = 0) ∧ τ kI_sign t * qz_ τ t = σ kI_sign a * qz_ σ a + f * (σ kI_sign b * qz_ σ b) ∧ (τ kI_used t = σ kI_used a + 1 ∨ τ kI_used t = σ kI_used b + 1) ∧ CFr t σ τ) ?_ ?_
  · refine wp_rd a0 a1 ?_
    have hp : -1 ≤ σ kI_sign a * (σ kI_sign b * f) ∧ σ kI_sign a * (σ kI_sign b * f) ≤ 1 := by
      rcases (show σ kI_sign a = -1 ∨ σ kI_sign a = 0 ∨ σ kI_sign a = 1 by omega) with e | e | e <;> rcases hf with rfl | rfl <;> rw [e] <;> omega
    rw [w32_of (x := σ kI_sign a * (σ kI_sign b * f)) (by omega) (by omega)]
    refine wp_if (fun h => ?_) (fun h => ?_)
    · refine wp_bd (P := fun s => (σ kI_sign a = 0 → s = σ kI_sign b * f) ∧ (σ kI_sign a ≠ 0 → s = σ kI_sign a)) ?_ ?_
      · refine wp_rd a0 a1 ?_
        rw [w32_of (x := σ kI_sign a) (by omega) (by omega)]
        exact wp_if (fun g => wp_rd a0 a1 (wp_some ⟨fun q => absurd q g, fun _ => rfl⟩)) (fun g => wp_some ⟨fun _ => rfl, fun q => absurd q g⟩)
      rintro s - ⟨s1, s2⟩
      obtain ⟨k1, k2, k3⟩ := sv_1 (A := qz_ σ a) (B := qz_ σ b) sa sb hf (CN_z hσ na) (CN_z hσ nb) h s1 s2
      refine wp_bd (wp_and (s_I_addLimbs (factor_0 := 1) hσ ⟨t0, by omega⟩ ⟨a0, by omega⟩ ⟨b0, by omega⟩) (v_I_addLimbs (f := 1) hσ t0 t1 a0 a1 b0 b1 ta tb (Or.inl rfl) ha hb (by omega))) ?_
      rintro τ - ⟨⟨hτ, -⟩, hv, hu, hfr⟩
      refine wp_waI hτ b_kI_sign t0 t1 k3 (fun υ hυ e => wp_some ?_)
      have e1 : υ kI_sign t = s := by rw [e, sg_at]
      have e2 : υ kI_used t = τ kI_used t := by rw [e, sg_nc (by decide)]
      have e3 : qz_ υ t = qz_ τ t := qz_cg (fun i => by rw [e, sg_nc (fun z => nS t1 z.symm)]) e2
      refine ⟨hυ, fun q => ?_, ?_, by rw [e2]; exact hu, fun c i q1 q2 q3 => ?_⟩
      · rw [e3, hv]; exact k2 (by rw [← e1]; exact q)
      · rw [e1, e3, hv]; exact k1
      · rw [e, sg_ne q3]; exact hfr c i q1 q2
    · obtain ⟨k1, k2, k3, k4, k5⟩ := sv_2 (A := qz_ σ a) (B := qz_ σ b) sa sb hf h
      refine wp_bd (P := fun τ => II τ ∧ (τ kI_sign t = 0 → qz_ τ t = 0) ∧ τ kI_sign t * qz_ τ t = σ kI_sign a * qz_ σ a + f * (σ kI_sign b * qz_ σ b) ∧ (τ kI_used t = σ kI_used a + 1 ∨ τ kI_used t = σ kI_used b + 1) ∧ CFr t σ τ) ?_ (fun τ _ h => wp_some h)
      have key : ∀ (s : Int) (υ : SG), υ = sg σ kI_sign t s → (∀ r, 0 ≤ r → r < 16 → υ kI_used r = σ kI_used r ∧ qz_ υ r = qz_ σ r) := by
        intro s υ e r r0 r1
        have u : υ kI_used r = σ kI_used r := by rw [e, sg_nc (by decide)]
        exact ⟨u, qz_cg (fun i => by rw [e, sg_nc (fun z => nS r1 z.symm)]) u⟩
      refine wp_bd (v_I_compareLimbs hσ a0 a1 b0 b1) ?_
      rintro x - ⟨x0, x1, x2, x3⟩
      rw [w32_of (x := x) (by omega) (by omega)]
      refine wp_if (fun g => ?_) (fun g => ?_)
      · refine wp_rd a0 a1 ?_
        refine wp_waI hσ b_kI_sign t0 t1 sa (fun υ hυ e => ?_)
        obtain ⟨ua, za⟩ := key _ υ e a a0 a1
        obtain ⟨ub, zb⟩ := key _ υ e b b0 b1
        have h2 := x2 g
        refine wp_bd (wp_and (s_I_addLimbs (factor_0 := -1) hυ ⟨t0, by omega⟩ ⟨a0, by omega⟩ ⟨b0, by omega⟩) (v_I_addLimbs (f := -1) hυ t0 t1 a0 a1 b0 b1 ta tb (Or.inr rfl) (by omega) (by omega) (by rw [za, zb]; omega))) ?_
        rintro τ - ⟨⟨hτ, -⟩, hv, hu, hfr⟩
        have e1 : τ kI_sign t = σ kI_sign a := by
          rw [hfr _ _ (nS t1) (fun z => absurd z.1 (by decide)), e, sg_at]
        rw [za, zb] at hv
        rw [ua, ub] at hu
        refine wp_some ⟨hτ, fun q => absurd (e1.symm.trans q) k3, by rw [e1, hv]; exact k1, hu, fun c i q1 q2 q3 => ?_⟩
        rw [hfr c i q1 q2, e, sg_ne q3]
      · refine wp_waI hσ b_kI_sign t0 t1 k5 (fun υ hυ e => ?_)
        obtain ⟨ua, za⟩ := key _ υ e a a0 a1
        obtain ⟨ub, zb⟩ := key _ υ e b b0 b1
        have h2 := x3 (by omega)
        refine wp_bd (wp_and (s_I_addLimbs (factor_0 := -1) hυ ⟨t0, by omega⟩ ⟨b0, by omega⟩ ⟨a0, by omega⟩) (v_I_addLimbs (f := -1) hυ t0 t1 b0 b1 a0 a1 tb ta (Or.inr rfl) (by omega) (by omega) (by rw [za, zb]; omega))) ?_
        rintro τ - ⟨⟨hτ, -⟩, hv, hu, hfr⟩
        have e1 : τ kI_sign t = σ kI_sign b * f := by
          rw [hfr _ _ (nS t1) (fun z => absurd z.1 (by decide)), e, sg_at]
        rw [za, zb] at hv
        rw [ua, ub] at hu
        refine wp_some ⟨hτ, fun q => absurd (e1.symm.trans q) k4, by rw [e1, hv]; exact k2, hu.symm, fun c i q1 q2 q3 => ?_⟩
        rw [hfr c i q1 q2, e, sg_ne q3]
  · rintro τ - ⟨hτ, hz, hv, hu, hfr⟩
    refine wp_bd (v_I_trim hτ t0 t1 hz) ?_
    rintro υ - ⟨g1, g2, g3, g4⟩
    exact wp_some ⟨g1, by rw [g2]; exact hv, by omega, fun c i q1 q2 q3 => (g4 c i q2 q3).trans (hfr c i q1 q2 q3)⟩
theorem FC_one {c : Nat} {σ τ : SG} (f : FC [c] [] σ τ) (c' : Nat) (i : Int) (h : ¬ c' = c) : τ c' i = σ c' i := by
  by_cases z : c' < 8704 ∨ 42496 ≤ c'
  · rw [f.1 c' z (fun q => h (List.mem_singleton.mp q))]
  · rw [f.2 c' (by omega) (by omega) (fun s hs => absurd hs List.not_mem_nil)]
theorem lm32 {F y q c : Int} (hF : 0 ≤ F ∧ F ≤ 4294967295) (hy : 0 ≤ y ∧ y ≤ 4294967295) (hq : 0 ≤ q ∧ q ≤ 4294967295) (hc : 0 ≤ c ∧ c ≤ 4294967295) : 0 ≤ F * y + q + c ∧ F * y + q + c < 18446744073709551616 := by
  have h0 := Int.mul_nonneg hF.1 hy.1
  have h1 := Int.mul_le_mul hF.2 hy.2 hy.1 (by decide : (0 : Int) ≤ 4294967295)
  omega
theorem v_I_multiply {σ : SG} {t a b : Int} (hσ : II σ) (t0 : 0 ≤ t) (t1 : t < 16) (a0 : 0 ≤ a) (a1 : a < 16) (b0 : 0 ≤ b) (b1 : b < 16) (ta : a ≠ t) (tb : b ≠ t) (hl : σ kI_used a + σ kI_used b ≤ 280) (na : CNR σ a) (nb : CNR σ b) : wp_ (fI_multiply σ t a b) (fun τ => CNR τ t ∧ τ kI_sign t * qz_ τ t = (σ kI_sign a * qz_ σ a) * (σ kI_sign b * qz_ σ b) ∧ τ kI_used t ≤ σ kI_used a + σ kI_used b ∧ CFr t σ τ) := by
  unfold fI_multiply
  have la := ii_kI_used hσ a
  have lb := ii_kI_used hσ b
  have sa := ii_kI_sign hσ a
  have sb := ii_kI_sign hσ b
  rw [w32_of (x := a) (by omega) (by omega), w32_of (x := b) (by omega) (by omega), w32_of (x := t) (by omega) (by omega)]
  refine wp_rd a0 a1 (wp_rd b0 b1 (wp_ck ⟨t0, t1⟩ ?_))
  have hm : q_mni (σ kI_used a + σ kI_used b) 280 = σ kI_used a + σ kI_used b := by
    have h2 := q_mni_bd (σ kI_used a + σ kI_used b) 280
    rw [w32_of (x := σ kI_used a + σ kI_used b) (by omega) (by omega), w32_of (x := 280) (by decide) (by decide)] at h2
    omega
  rw [hm, w32_of (x := σ kI_used a + σ kI_used b) (by omega) (by omega)]
  obtain ⟨m, em⟩ : ∃ m : Nat, σ kI_used a + σ kI_used b = m := ⟨(σ kI_used a + σ kI_used b).toNat, by omega⟩
  rw [em]
  refine wp_bd (v_fillIR hσ (by omega) (by rw [bI_limb (by omega)]; exact trivial) (by decide) ⟨by omega, by omega, by omega⟩) ?_
  rintro σ7 - ⟨h7, f0, f1⟩
  have f2 := FC_one f0
  have hB := lq_qa (σ := σ) (a := b) lb.1 (n := (σ kI_used b + 1).toNat) (by omega)
  refine wp_bd (P := fun x => II x.2 ∧ (∀ c j, ¬ (c = (256 + t.toNat) * 256) → x.2 c j = σ c j) ∧ lq_ (qw_ x.2 t) 0 m = qz_ σ a * qz_ σ b) ?_ ?_
  · refine wp_whl (fun x => II x.2 ∧ 0 ≤ x.1 ∧ x.1 ≤ σ kI_used a ∧ (∀ c j, ¬ (c = (256 + t.toNat) * 256) → x.2 c j = σ c j) ∧ lq_ (qw_ x.2 t) 0 m = lq_ (qa_ σ a) 0 x.1.toNat * qz_ σ b ∧ (∀ j, x.1 + σ kI_used b ≤ j → j < m → qw_ x.2 t j = 0)) (fun x => (σ kI_used a - x.1).toNat) ⟨h7, Int.le_refl 0, la.1, f2, ?_, ?_⟩ ?_
    · show lq_ (qw_ σ7 t) 0 m = 0 * _
      rw [Int.zero_mul]
      exact lq_z (fun i i0 i1 => by unfold qw_; rw [Int.zero_add, f1 i i0 i1]; rfl)
    · intro j j0 j1
      show σ7 _ j % _ = 0
      rw [f1 j (by dsimp only at j0; omega) j1]; rfl
    rintro ⟨i, τ⟩ ⟨hτ, i0, i1, hfr, hv, hz⟩
    dsimp only at hτ i0 i1 hfr hv hz ⊢
    refine wp_rd a0 a1 ?_
    rw [hfr kI_used a (nU t1), w32_of (x := i) (by omega) (by omega), w32_of (x := σ kI_used a) (by omega) (by omega)]
    have ni : (i + 1).toNat = i.toNat + 1 := by omega
    have ii : ((i.toNat : Nat) : Int) = i := by omega
    refine wp_if (fun h => ?_) (fun h => ?_)
    · refine wp_bd (v_I_limbAt hτ a0 a1 i0 (by omega)) ?_
      rintro x - rfl
      have eqa : qa_ τ a i = qa_ σ a i := by
        unfold qa_ qw_
        rw [hfr kI_used a (nU t1), hfr ((256 + a.toNat) * 256) i (nW a0 t0 ta)]
      rw [eqa]
      have bF := qa_bd σ a i
      rw [w64_of (x := qa_ σ a i) (by omega) (by omega)]
      refine wp_if (fun g => ?_) (fun g => ?_)
      · refine wp_il ⟨⟨hτ, by show 0 ≤ i + 1; omega, by show i + 1 ≤ _; omega, hfr, ?_, fun j j0 j1 => hz j (by dsimp only at j0; omega) j1⟩, by show (σ kI_used a - (i + 1)).toNat < (σ kI_used a - i).toNat; omega⟩
        dsimp only
        rw [ni, lq_s, Int.zero_add, ii, g, Int.zero_mul, Int.add_zero]
        exact hv
      · refine wp_bd (P := fun x => II x.2.2 ∧ (∀ c j, ¬ (c = (256 + t.toNat) * 256) → x.2.2 c j = σ c j) ∧ lq_ (qw_ x.2.2 t) 0 m = lq_ (qw_ τ t) 0 m + qa_ σ a i * qz_ σ b * 2 ^ (32 * i.toNat) ∧ (∀ j, i + 1 + σ kI_used b ≤ j → j < m → qw_ x.2.2 t j = 0)) ?_ ?_
        · refine wp_whl (fun x => II x.2.2 ∧ 0 ≤ x.2.1 ∧ x.2.1 ≤ σ kI_used b + 1 ∧ (0 ≤ x.1 ∧ x.1 ≤ 4294967295) ∧ (∀ c j, ¬ (c = (256 + t.toNat) * 256) → x.2.2 c j = σ c j) ∧ lq_ (qw_ x.2.2 t) 0 m + x.1 * 2 ^ (32 * (i.toNat + x.2.1.toNat)) = lq_ (qw_ τ t) 0 m + qa_ σ a i * lq_ (qa_ σ b) 0 x.2.1.toNat * 2 ^ (32 * i.toNat) ∧ (x.2.1 = σ kI_used b + 1 → x.1 = 0) ∧ (∀ j, i + x.2.1 ≤ j → qw_ x.2.2 t j = qw_ τ t j)) (fun x => (σ kI_used b + 1 - x.2.1).toNat) ⟨hτ, Int.le_refl 0, by show (0 : Int) ≤ _; omega, by show (0 : Int) ≤ 0 ∧ (0 : Int) ≤ _; decide, hfr, by show lq_ (qw_ τ t) 0 m + 0 * _ = lq_ (qw_ τ t) 0 m + qa_ σ a i * 0 * _; rw [Int.zero_mul, Int.mul_zero, Int.zero_mul], fun q => by dsimp only at q; omega, fun _ _ => rfl⟩ ?_
          rintro ⟨c, k, υ⟩ ⟨hυ, k0, k1, hc, hfu, hw, hct, hun⟩
          dsimp only at hυ k0 k1 hc hfu hw hct hun ⊢
          refine wp_rd b0 b1 ?_
          rw [hfu kI_used b (nU t1), w32_of (x := k) (by omega) (by omega), w32_of (x := σ kI_used b) (by omega) (by omega)]
          refine wp_if (fun g1 => ?_) (fun g1 => ?_)
          · rw [w32_of (x := i + k) (by omega) (by omega)]
            refine wp_if (fun g2 => ?_) (fun g2 => absurd (by omega) g2)
            refine wp_bd (v_I_limbAt hυ b0 b1 k0 (by omega)) ?_
            rintro y - rfl
            have eqb : qa_ υ b k = qa_ σ b k := by
              unfold qa_ qw_
              rw [hfu kI_used b (nU t1), hfu ((256 + b.toNat) * 256) k (nW b0 t0 tb)]
            rw [eqb]
            have bY := qa_bd σ b k
            refine wp_ck ⟨t0, t1⟩ (wp_rd (by omega) (by omega) ?_)
            refine wp_lt (fun s hs => wp_ck ⟨t0, t1⟩ ?_)
            rw [lan32, w32_md] at hs
            have hs : s = qa_ σ a i * qa_ σ b k + qw_ υ t (i + k) + c := hs
            have bs := lm32 bF bY (qw_bd υ t (i + k)) hc
            rw [← hs] at bs
            have hq : q_lus s 32 = s / 4294967296 := by rw [lus32]; omega
            refine wp_waN hυ (bI_limb (by omega)) (by omega) (by omega) (fun φ hφ e => ?_)
            have nk : (k + 1).toNat = k.toNat + 1 := by omega
            have kk : ((k.toNat : Nat) : Int) = k := by omega
            have e1 : qw_ φ t (i + k) = s % 4294967296 := by unfold qw_; rw [e, sg_at]
            have e2 : ∀ j : Int, j ≠ i + k → qw_ φ t j = qw_ υ t j := fun j q => by unfold qw_; rw [e, sg_ni q]
            refine wp_il ⟨⟨hφ, by show 0 ≤ k + 1; omega, by show k + 1 ≤ _; omega, by show 0 ≤ q_lus s 32 ∧ q_lus s 32 ≤ _; omega, fun c' j q => ?_, ?_, fun q => ?_, fun j q => ?_⟩, by show (σ kI_used b + 1 - (k + 1)).toNat < (σ kI_used b + 1 - k).toNat; omega⟩
            · dsimp only
              rw [e, sg_nc q]; exact hfu c' j q
            · dsimp only
              have hup := lq_up (w := qw_ υ t) (v := qw_ φ t) (base := 0) (p := i + k) (x := s % 4294967296) (by rw [Int.zero_add]; exact e1) (fun j q => by rw [Int.zero_add]; exact e2 j q) (n := m) (by omega)
              rw [if_pos g2, Int.zero_add] at hup
              rw [hup, nk, lq_s, Int.zero_add, kk, ← Nat.add_assoc, p2_s, hq]
              rw [show (i + k).toNat = i.toNat + k.toNat by omega]
              rw [p2_add] at hw ⊢
              have hd : s % 4294967296 + s / 4294967296 * 4294967296 = qa_ σ a i * qa_ σ b k + qw_ υ t (i + k) + c := by
                rw [← hs]; omega
              clear hs
              generalize (2 : Int) ^ (32 * i.toNat) = P at hw ⊢
              generalize (2 : Int) ^ (32 * k.toNat) = R at hw ⊢
              generalize s % 4294967296 = lo at hd ⊢
              generalize s / 4294967296 = up at hd ⊢
              generalize lq_ (qw_ υ t) 0 m = X1 at hw ⊢
              generalize lq_ (qw_ τ t) 0 m = X2 at hw ⊢
              generalize lq_ (qa_ σ b) 0 k.toNat = X3 at hw ⊢
              generalize qw_ υ t (i + k) = Z at hd ⊢
              generalize qa_ σ a i = F at hw hd ⊢
              generalize qa_ σ b k = Y at hd ⊢
              clear e1 e2 hup bs hq e hφ hfu hun hct hz hv hfr hτ hυ h7 f0 f1 f2 hB
              grind
            · dsimp only at q ⊢
              have z1 : qa_ σ b k = 0 := by unfold qa_; rw [if_neg (by omega)]
              have z2 : qw_ υ t (i + k) = 0 := by rw [hun (i + k) (Int.le_refl _)]; exact hz _ (by omega) (by omega)
              rw [z1, z2, Int.mul_zero] at hs
              rw [hq]; omega
            · dsimp only at q ⊢
              rw [e2 j (by omega)]; exact hun j (by omega)
          · have hk : k = σ kI_used b + 1 := by omega
            refine wp_ir ⟨hυ, hfu, ?_, fun j j0 j1 => ?_⟩
            · dsimp only
              rw [hct hk, Int.zero_mul, Int.add_zero, hk, hB] at hw
              exact hw
            · dsimp only
              rw [hun j (by omega)]; exact hz j (by omega) j1
        · rintro ⟨c, k, υ⟩ - ⟨hυ, hfu, hw, hzu⟩
          dsimp only at hυ hfu hw hzu ⊢
          refine wp_il ⟨⟨hυ, by show 0 ≤ i + 1; omega, by show i + 1 ≤ _; omega, hfu, ?_, fun j j0 j1 => hzu j (by dsimp only at j0; omega) j1⟩, by show (σ kI_used a - (i + 1)).toNat < (σ kI_used a - i).toNat; omega⟩
          dsimp only
          rw [hw, hv, ni, lq_s, Int.zero_add, ii]
          generalize lq_ (qa_ σ a) 0 i.toNat = X
          generalize qa_ σ a i = F
          generalize qz_ σ b = B
          generalize (2 : Int) ^ (32 * i.toNat) = P
          grind
    · have hi : i = σ kI_used a := by omega
      refine wp_ir ⟨hτ, hfr, ?_⟩
      dsimp only
      rw [hv, hi, lq_qa la.1 (by omega)]
  · rintro ⟨i, τ⟩ - ⟨hτ, hfr, hv⟩
    dsimp only at hτ hfr hv ⊢
    refine wp_waI hτ b_kI_used t0 t1 (by omega) (fun υ hυ e => ?_)
    have s1 : υ kI_sign a = σ kI_sign a := by rw [e, sg_nc (by decide), hfr _ _ (nS t1)]
    have s2 : υ kI_sign b = σ kI_sign b := by rw [e, sg_nc (by decide), hfr _ _ (nS t1)]
    refine wp_rd a0 a1 (wp_rd b0 b1 ?_)
    rw [s1, s2]
    have hp : -1 ≤ σ kI_sign a * σ kI_sign b ∧ σ kI_sign a * σ kI_sign b ≤ 1 := by
      rcases (show σ kI_sign a = -1 ∨ σ kI_sign a = 0 ∨ σ kI_sign a = 1 by omega) with e | e | e <;> rw [e] <;> omega
    refine wp_waI hυ b_kI_sign t0 t1 hp (fun φ hφ e9 => ?_)
    have u1 : φ kI_used t = m := by rw [e9, sg_nc (by decide), e, sg_at]
    have g1 : φ kI_sign t = σ kI_sign a * σ kI_sign b := by rw [e9, sg_at]
    have w1 : qw_ φ t = qw_ τ t := qw_cg (fun j => by rw [e9, sg_nc (fun z => nS t1 z.symm), e, sg_nc (fun z => nU t1 z.symm)])
    have q1 : qz_ φ t = qz_ σ a * qz_ σ b := by
      show lq_ (qw_ φ t) 0 (φ kI_used t).toNat = _
      rw [u1, w1, show ((m : Nat) : Int).toNat = m by omega]; exact hv
    have hz : φ kI_sign t = 0 → qz_ φ t = 0 := by
      intro q
      rw [g1] at q
      rw [q1]
      rcases Int.mul_eq_zero.mp q with z | z
      · rw [CN_z hσ na z, Int.zero_mul]
      · rw [CN_z hσ nb z, Int.mul_zero]
    refine wp_bd (v_I_trim hφ t0 t1 hz) ?_
    rintro ψ - ⟨g2, g3, g4, g5⟩
    refine wp_some ⟨g2, ?_, by omega, fun c j q1 q2 q3 => ?_⟩
    · rw [g3, g1, q1]
      generalize σ kI_sign a = A
      generalize σ kI_sign b = B
      generalize qz_ σ a = C
      generalize qz_ σ b = D
      grind
    · rw [g5 c j q2 q3, e9, sg_ne q3, e, sg_ne q2]; exact hfr c j q1
end CVM
