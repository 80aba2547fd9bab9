section LIO
theorem v_lessSizes {σ : SG} {t a b : Int} (hσ : II σ) (t0 : 0 ≤ t) (t1 : t < 20) (a0 : 0 ≤ a) (a1 : a < 20) (b0 : 0 ≤ b) (b1 : b < 20) (hab : σ kR_limbs b ≤ σ kR_limbs a) (hv : lq_ (σ kR_w) (300 * b) (σ kR_limbs b).toNat ≤ lq_ (σ kR_w) (300 * a) (σ kR_limbs a).toNat) : wp_ (fR_lessSizes σ t a b) (fun τ => II τ ∧ FR [kR_limbs, kR_w] σ τ ∧ lq_ (τ kR_w) (300 * t) (τ kR_limbs t).toNat = lq_ (σ kR_w) (300 * a) (σ kR_limbs a).toNat - lq_ (σ kR_w) (300 * b) (σ kR_limbs b).toNat ∧ τ kR_limbs t = σ kR_limbs a ∧ RS t σ τ) := by
  unfold fR_lessSizes
  have la := ii_kR_limbs hσ a
  have lb := ii_kR_limbs hσ b
  rw [w32_of (x := a) (by omega) (by omega), w32_of (x := t) (by omega) (by omega)]
  refine wp_rd a0 a1 ?_
  rw [w32_of (x := σ kR_limbs a) (by omega) (by omega)]
  refine wp_bd (P := fun x => II x.2.2 ∧ (∀ c i, ¬ (c = kR_w ∧ 300 * t ≤ i ∧ i < 300 * t + 300) → x.2.2 c i = σ c i) ∧ lq_ (x.2.2 kR_w) (300 * t) (σ kR_limbs a).toNat = lq_ (σ kR_w) (300 * a) (σ kR_limbs a).toNat - lq_ (σ kR_w) (300 * b) (σ kR_limbs b).toNat) ?_ ?_
  · refine wp_whl (fun x => II x.2.2 ∧ 0 ≤ x.2.1 ∧ x.2.1 ≤ σ kR_limbs a ∧ 0 ≤ x.1 ∧ x.1 ≤ 1 ∧ (∀ c i, ¬ (c = kR_w ∧ 300 * t ≤ i ∧ i < 300 * t + x.2.1) → x.2.2 c i = σ c i) ∧ lq_ (x.2.2 kR_w) (300 * t) x.2.1.toNat = ll_ (la_ σ a) x.2.1.toNat - ll_ (la_ σ b) x.2.1.toNat + x.1 * 2 ^ (32 * x.2.1.toNat)) (fun x => (σ kR_limbs a - x.2.1).toNat) ⟨hσ, Int.le_refl 0, la.1, Int.le_refl 0, by show (0 : Int) ≤ 1; decide, fun _ _ _ => rfl, rfl⟩ ?_
    rintro ⟨c, k, τ⟩ ⟨hτ, k0, k1, c0, c1, hf, hl⟩
    dsimp only at hτ k0 k1 c0 c1 hf hl ⊢
    rw [w32_of (x := k) (by omega) (by omega)]
    refine wp_if (fun h => ?_) (fun h => ?_)
    · have eqa : la_ τ a k = la_ σ a k := by
        unfold la_
        rw [hf kR_limbs a (by intro q; exact absurd q.1 (by decide)), hf kR_w (300 * a + k) (by omega)]
      have eqb : la_ τ b k = la_ σ b k := by
        unfold la_
        rw [hf kR_limbs b (by intro q; exact absurd q.1 (by decide)), hf kR_w (300 * b + k) (by omega)]
      refine wp_bd (v_limb hτ a0 a1 k0 (by omega)) ?_
      rintro x - rfl
      refine wp_bd (v_limb hτ b0 b1 k0 (by omega)) ?_
      rintro y - rfl
      rw [eqa, eqb]
      have ba := la_bd hσ a k
      have bb := la_bd hσ b k
      rw [w32_of (x := 300 * t + k) (by omega) (by omega), w64_of (x := la_ σ a k - la_ σ b k - c) (by omega) (by omega)]
      have hlo := lan32 (la_ σ a k - la_ σ b k - c)
      refine wp_waI hτ b_kR_w (by omega) (by omega) (by rw [hlo]; omega) (fun υ hυ e => ?_)
      have nk : (k + 1).toNat = k.toNat + 1 := by omega
      have kk : ((k.toNat : Nat) : Int) = k := by omega
      have e1 : υ kR_w (300 * t + k) = (la_ σ a k - la_ σ b k - c) % 4294967296 := by rw [e, ← hlo]; exact sg_at _ _ _ _
      have e2 : lq_ (υ kR_w) (300 * t) k.toNat = lq_ (τ kR_w) (300 * t) k.toNat := lq_cg (fun i i0 i1 => by rw [e, sg_ni (by omega)])
      have s1 : (la_ σ a k - la_ σ b k - c) % 4294967296 = la_ σ a k - la_ σ b k - c + (if la_ σ a k - la_ σ b k - c < 0 then 1 else 0) * 4294967296 := by split <;> omega
      refine wp_il ⟨⟨hυ, by show 0 ≤ k + 1; omega, by show k + 1 ≤ _; omega, by dsimp only; split <;> decide, by dsimp only; split <;> decide, ?_, ?_⟩, by show (σ kR_limbs a - (k + 1)).toNat < (σ kR_limbs a - k).toNat; omega⟩
      · intro c' i q
        dsimp only at q ⊢
        rw [e, sg_ne (by intro r; exact q ⟨r.1, by omega, by omega⟩)]
        exact hf c' i (by intro r; exact q ⟨r.1, by omega, by omega⟩)
      · dsimp only
        rw [nk]
        show lq_ (υ kR_w) (300 * t) k.toNat + υ kR_w (300 * t + k.toNat) * 2 ^ (32 * k.toNat) = ll_ (la_ σ a) k.toNat + la_ σ a k.toNat * 2 ^ (32 * k.toNat) - (ll_ (la_ σ b) k.toNat + la_ σ b k.toNat * 2 ^ (32 * k.toNat)) + _
        rw [p2_s, kk, e1, e2, s1]
        generalize (2 : Int) ^ (32 * k.toNat) = P at hl ⊢
        generalize (if la_ σ a k - la_ σ b k - c < 0 then (1 : Int) else 0) = d
        grind
    · have hk : k = σ kR_limbs a := by omega
      refine wp_ir ⟨hτ, fun c i q => hf c i (by intro r; exact q ⟨r.1, by omega, by omega⟩), ?_⟩
      dsimp only
      rw [hk, ll_la la.1 (by omega), ll_la lb.1 (by omega)] at hl
      have hlt := lq_lt (w := τ kR_w) (base := 300 * t) (n := (σ kR_limbs a).toNat) (w_nn hτ _ _)
      have hc : c = 0 := by
        rcases (show c = 0 ∨ c = 1 by omega) with q | q
        · exact q
        · rw [q, Int.one_mul] at hl; omega
      rw [hc, Int.zero_mul, Int.add_zero] at hl
      exact hl
  · rintro ⟨c, k, τ⟩ - ⟨hτ, hf, hl⟩
    dsimp only at hτ hf hl ⊢
    refine wp_waI hτ b_kR_limbs t0 t1 (by omega) (fun υ hυ e => wp_some ⟨hυ, ?_, ?_, ?_, ?_⟩)
    · have f1 : FR [kR_limbs, kR_w] σ τ := by
        intro c' hc
        funext i
        exact hf c' i (fun q => hc (by rw [q.1]; exact List.mem_cons_of_mem _ List.mem_cons_self))
      exact FR_tr (ms := [kR_limbs, kR_w]) f1 (FR_sg e) (by decide) (by decide)
    · have el : υ kR_limbs t = σ kR_limbs a := by rw [e]; exact sg_at _ _ _ _
      have ew : υ kR_w = τ kR_w := by rw [e]; funext i; exact sg_nc (by decide)
      rw [el, ew, hl]
    · rw [e]; exact sg_at _ _ _ _
    · intro q q0 q1 hq
      refine ⟨?_, ?_, fun i i0 i1 => ?_⟩
      · rw [e, sg_ni hq]; exact hf _ _ (by intro r; exact absurd r.1 (by decide))
      · rw [e, sg_nc (by decide)]; exact hf _ _ (by intro r; exact absurd r.1 (by decide))
      · rw [e, sg_nc (by decide)]; exact hf _ _ (by omega)
/-- more limbs, a greater size -/
theorem lq_more {σ : SG} (hσ : II σ) {a b : Int} (hb : NR σ b) (h : σ kR_limbs a < σ kR_limbs b) (h0 : 0 ≤ σ kR_limbs a) : lq_ (σ kR_w) (300 * a) (σ kR_limbs a).toNat ≤ lq_ (σ kR_w) (300 * b) (σ kR_limbs b).toNat := by
  have hlt := lq_lt (w := σ kR_w) (base := 300 * a) (n := (σ kR_limbs a).toNat) (w_nn hσ _ _)
  obtain ⟨n, hn⟩ : ∃ n : Nat, (σ kR_limbs b).toNat = n + 1 := ⟨(σ kR_limbs b).toNat - 1, by omega⟩
  have ht := (hb.2 (by omega)).2
  have hn2 : σ kR_limbs b - 1 = n := by omega
  rw [hn2] at ht
  have hw := ii_kR_w hσ (300 * b + n)
  rw [hn, lq_s]
  have g0 := lq_nn (w := σ kR_w) (base := 300 * b) (n := n) (fun i _ _ => (ii_kR_w hσ _).1)
  have g1 := Int.mul_le_mul_of_nonneg_right (show 1 ≤ σ kR_w (300 * b + n) by omega) (Int.le_of_lt (p2_pos (32 * n)))
  have g2 : (2 : Int) ^ (32 * (σ kR_limbs a).toNat) ≤ 2 ^ (32 * n) := by
    have : 32 * n = 32 * (σ kR_limbs a).toNat + (32 * n - 32 * (σ kR_limbs a).toNat) := by omega
    rw [this, Int.pow_add]
    have p1 := p2_pos (32 * (σ kR_limbs a).toNat)
    have p2 := p2_pos (32 * n - 32 * (σ kR_limbs a).toNat)
    have := Int.mul_le_mul_of_nonneg_left (show (1 : Int) ≤ 2 ^ (32 * n - 32 * (σ kR_limbs a).toNat) by omega) (Int.le_of_lt p1)
    omega
  omega
theorem v_sizes {σ : SG} {a b : Int} (hσ : II σ) (a0 : 0 ≤ a) (a1 : a < 20) (b0 : 0 ≤ b) (b1 : b < 20) (na : NR σ a) (nb : NR σ b) : wp_ (fR_sizes σ a b) (fun x => -1 ≤ x ∧ x ≤ 1 ∧ (0 ≤ x → σ kR_limbs b ≤ σ kR_limbs a ∧ lq_ (σ kR_w) (300 * b) (σ kR_limbs b).toNat ≤ lq_ (σ kR_w) (300 * a) (σ kR_limbs a).toNat) ∧ (x < 0 → σ kR_limbs a ≤ σ kR_limbs b ∧ lq_ (σ kR_w) (300 * a) (σ kR_limbs a).toNat ≤ lq_ (σ kR_w) (300 * b) (σ kR_limbs b).toNat)) := by
  unfold fR_sizes
  have la := ii_kR_limbs hσ a
  have lb := ii_kR_limbs hσ b
  rw [w32_of (x := a) (by omega) (by omega), w32_of (x := b) (by omega) (by omega)]
  refine wp_rd a0 a1 (wp_rd b0 b1 ?_)
  rw [w32_of (x := σ kR_limbs a) (by omega) (by omega), w32_of (x := σ kR_limbs b) (by omega) (by omega)]
  refine wp_if (fun h => ?_) (fun h => ?_)
  · refine wp_bd (P := fun x => -1 ≤ x ∧ x ≤ 1 ∧ (0 ≤ x → σ kR_limbs b ≤ σ kR_limbs a ∧ lq_ (σ kR_w) (300 * b) (σ kR_limbs b).toNat ≤ lq_ (σ kR_w) (300 * a) (σ kR_limbs a).toNat) ∧ (x < 0 → σ kR_limbs a ≤ σ kR_limbs b ∧ lq_ (σ kR_w) (300 * a) (σ kR_limbs a).toNat ≤ lq_ (σ kR_w) (300 * b) (σ kR_limbs b).toNat)) ?_ (fun _ _ q => wp_some q)
    refine wp_rd a0 a1 (wp_rd b0 b1 ?_)
    rw [w32_of (x := σ kR_limbs a) (by omega) (by omega), w32_of (x := σ kR_limbs b) (by omega) (by omega)]
    refine wp_if (fun g => ?_) (fun g => ?_)
    · exact wp_some ⟨by decide, by decide, fun q => absurd q (by decide), fun _ => ⟨by omega, lq_more hσ nb g la.1⟩⟩
    · exact wp_some ⟨by decide, by decide, fun _ => ⟨by omega, lq_more hσ na (by omega) lb.1⟩, fun q => absurd q (by decide)⟩
  · have heq : σ kR_limbs a = σ kR_limbs b := by omega
    refine wp_rd a0 a1 ?_
    rw [← heq]
    generalize hn : σ kR_limbs a = n at *
    refine wp_bd (P := fun k => -1 ≤ k ∧ k < 300 ∧ (k < 0 → lq_ (σ kR_w) (300 * a) n.toNat = lq_ (σ kR_w) (300 * b) n.toNat) ∧ (0 ≤ k → (σ kR_w (300 * a + k) < σ kR_w (300 * b + k) → lq_ (σ kR_w) (300 * a) n.toNat ≤ lq_ (σ kR_w) (300 * b) n.toNat) ∧ (¬ σ kR_w (300 * a + k) < σ kR_w (300 * b + k) → lq_ (σ kR_w) (300 * b) n.toNat ≤ lq_ (σ kR_w) (300 * a) n.toNat))) ?_ ?_
    · refine wp_whl (fun k => -1 ≤ k ∧ k < n ∧ lq_ (σ kR_w) (300 * a) n.toNat - lq_ (σ kR_w) (300 * b) n.toNat = lq_ (σ kR_w) (300 * a) (k + 1).toNat - lq_ (σ kR_w) (300 * b) (k + 1).toNat) (fun k => (k + 1).toNat) ⟨by omega, by omega, by rw [show n - 1 + 1 = n by omega]⟩ ?_
      rintro k ⟨k0, k1, hk⟩
      rw [w32_of (x := k) (by omega) (by omega)]
      refine wp_if (fun g => ?_) (fun g => ?_)
      · rw [w32_of (x := 300 * a + k) (by omega) (by omega), w32_of (x := 300 * b + k) (by omega) (by omega)]
        refine wp_rd (by omega) (by omega) (wp_rd (by omega) (by omega) ?_)
        have wa := ii_kR_w hσ (300 * a + k)
        have wb := ii_kR_w hσ (300 * b + k)
        rw [w64_of (x := σ kR_w (300 * a + k)) (by omega) (by omega), w64_of (x := σ kR_w (300 * b + k)) (by omega) (by omega)]
        have nk : (k + 1).toNat = k.toNat + 1 := by omega
        have kk : ((k.toNat : Nat) : Int) = k := by omega
        rw [nk, lq_s, lq_s, kk] at hk
        refine wp_if (fun e => ?_) (fun e => ?_)
        · refine wp_il ⟨⟨by omega, by omega, ?_⟩, by omega⟩
          rw [e] at hk
          have : k + -1 + 1 = k := by omega
          rw [this]
          omega
        · have ga := lq_nn (w := σ kR_w) (base := 300 * a) (n := k.toNat) (fun i _ _ => (ii_kR_w hσ _).1)
          have gb := lq_nn (w := σ kR_w) (base := 300 * b) (n := k.toNat) (fun i _ _ => (ii_kR_w hσ _).1)
          have ha := lq_lt (w := σ kR_w) (base := 300 * a) (n := k.toNat) (w_nn hσ _ _)
          have hb := lq_lt (w := σ kR_w) (base := 300 * b) (n := k.toNat) (w_nn hσ _ _)
          have pp := p2_pos (32 * k.toNat)
          refine wp_ir ⟨by omega, by omega, fun q => absurd q (by omega), fun _ => ⟨fun q => ?_, fun q => ?_⟩⟩
          · have := Int.mul_le_mul_of_nonneg_right (show σ kR_w (300 * a + k) + 1 ≤ σ kR_w (300 * b + k) by omega) (Int.le_of_lt pp)
            rw [Int.add_mul, Int.one_mul] at this
            omega
          · have := Int.mul_le_mul_of_nonneg_right (show σ kR_w (300 * b + k) + 1 ≤ σ kR_w (300 * a + k) by omega) (Int.le_of_lt pp)
            rw [Int.add_mul, Int.one_mul] at this
            omega
      · have : k = -1 := by omega
        subst this
        refine wp_ir ⟨by omega, by omega, fun _ => ?_, fun q => absurd q (by omega)⟩
        have z : ((-1 : Int) + 1).toNat = 0 := rfl
        rw [z] at hk
        have z1 : lq_ (σ kR_w) (300 * a) 0 = 0 := rfl
        have z2 : lq_ (σ kR_w) (300 * b) 0 = 0 := rfl
        omega
    · rintro k - ⟨k0, k1, k2, k3⟩
      rw [w32_of (x := k) (by omega) (by omega)]
      refine wp_bd (P := fun x => -1 ≤ x ∧ x ≤ 1 ∧ (0 ≤ x → lq_ (σ kR_w) (300 * b) n.toNat ≤ lq_ (σ kR_w) (300 * a) n.toNat) ∧ (x < 0 → lq_ (σ kR_w) (300 * a) n.toNat ≤ lq_ (σ kR_w) (300 * b) n.toNat)) ?_ (fun x _ q => wp_some ⟨q.1, q.2.1, fun p => ⟨by omega, q.2.2.1 p⟩, fun p => ⟨by omega, q.2.2.2 p⟩⟩)
      refine wp_if (fun g => ?_) (fun g => ?_)
      · exact wp_some ⟨by decide, by decide, fun _ => by rw [k2 g]; exact Int.le_refl _, fun q => absurd q (by decide)⟩
      · refine wp_bd (P := fun x => -1 ≤ x ∧ x ≤ 1 ∧ (0 ≤ x → lq_ (σ kR_w) (300 * b) n.toNat ≤ lq_ (σ kR_w) (300 * a) n.toNat) ∧ (x < 0 → lq_ (σ kR_w) (300 * a) n.toNat ≤ lq_ (σ kR_w) (300 * b) n.toNat)) ?_ (fun x _ q => wp_some q)
        rw [w32_of (x := 300 * a + k) (by omega) (by omega), w32_of (x := 300 * b + k) (by omega) (by omega)]
        refine wp_rd (by omega) (by omega) (wp_rd (by omega) (by omega) ?_)
        have wa := ii_kR_w hσ (300 * a + k)
        have wb := ii_kR_w hσ (300 * b + k)
        rw [w64_of (x := σ kR_w (300 * a + k)) (by omega) (by omega), w64_of (x := σ kR_w (300 * b + k)) (by omega) (by omega)]
        refine wp_if (fun e => ?_) (fun e => ?_)
        · exact wp_some ⟨by decide, by decide, fun q => absurd q (by decide), fun _ => (k3 (by omega)).1 e⟩
        · exact wp_some ⟨by decide, by decide, fun _ => (k3 (by omega)).2 e, fun q => absurd q (by decide)⟩
/-- the value of an empty register -/
theorem RV_0 {σ : SG} {a : Int} (hσ : II σ) (h : NR σ a) (hs : σ kR_sign a = 0) : lq_ (σ kR_w) (300 * a) (σ kR_limbs a).toNat = 0 := by
  have la := ii_kR_limbs hσ a
  have : σ kR_limbs a = 0 := by
    rcases (show σ kR_limbs a = 0 ∨ 0 < σ kR_limbs a by omega) with q | q
    · exact q
    · exact absurd hs (h.2 q).1
  rw [this]; rfl
theorem v_add {σ : SG} {t a b : Int} {less : Bool} (hσ : II σ) (t0 : 0 ≤ t) (t1 : t < 20) (a0 : 0 ≤ a) (a1 : a < 20) (b0 : 0 ≤ b) (b1 : b < 20) (ha : σ kR_limbs a ≤ 299) (hb : σ kR_limbs b ≤ 299) (na : NR σ a) (nb : NR σ b) : wp_ (fR_add σ t a b less) (fun τ => II τ ∧ FR [kR_limbs, kR_sign, kR_w] σ τ ∧ NR τ t ∧ RV τ t = (if less = true then RV σ a - RV σ b else RV σ a + RV σ b) ∧ (τ kR_limbs t ≤ σ kR_limbs a + 1 ∨ τ kR_limbs t ≤ σ kR_limbs b + 1) ∧ RS t σ τ) := by
  unfold fR_add
  have sa := ii_kR_sign hσ a
  have sb := ii_kR_sign hσ b
  rw [w32_of (x := a) (by omega) (by omega), w32_of (x := b) (by omega) (by omega), w32_of (x := t) (by omega) (by omega)]
  refine wp_rd a0 a1 ?_
  refine wp_bd (P := fun y => y = (if less = true then -σ kR_sign b else σ kR_sign b)) ?_ ?_
  · refine wp_if (fun h => ?_) (fun h => ?_)
    · exact wp_rd b0 b1 (wp_some (by rw [if_pos h]))
    · exact wp_rd b0 b1 (wp_some (by rw [if_neg h]))
  rintro y - hy
  have hyb : -1 ≤ y ∧ y ≤ 1 := by rw [hy]; split <;> omega
  have hyv : y * lq_ (σ kR_w) (300 * b) (σ kR_limbs b).toNat = (if less = true then -RV σ b else RV σ b) := by
    rw [hy]; unfold RV; split
    · rw [Int.neg_mul]
    · rfl
  have goal2 : (if less = true then RV σ a - RV σ b else RV σ a + RV σ b) = σ kR_sign a * lq_ (σ kR_w) (300 * a) (σ kR_limbs a).toNat + y * lq_ (σ kR_w) (300 * b) (σ kR_limbs b).toNat := by
    rw [hyv]; unfold RV; split <;> omega
  have za : σ kR_sign a = 0 → lq_ (σ kR_w) (300 * a) (σ kR_limbs a).toNat = 0 := RV_0 hσ na
  have zb : y = 0 → lq_ (σ kR_w) (300 * b) (σ kR_limbs b).toNat = 0 := fun h => RV_0 hσ nb (by rw [hy] at h; split at h <;> omega)
  rw [goal2]
  generalize hA : lq_ (σ kR_w) (300 * a) (σ kR_limbs a).toNat = A at *
  generalize hB : lq_ (σ kR_w) (300 * b) (σ kR_limbs b).toNat = B at *
  rw [w32_of (x := σ kR_sign a) (by omega) (by omega), w32_of (x := y) (by omega) (by omega)]
  refine wp_bd (P := fun τ => II τ ∧ FR [kR_limbs, kR_sign, kR_w] σ τ ∧ RV τ t = σ kR_sign a * A + y * B ∧ (τ kR_sign t = 0 → lq_ (τ kR_w) (300 * t) (τ kR_limbs t).toNat = 0) ∧ (τ kR_limbs t ≤ σ kR_limbs a + 1 ∨ τ kR_limbs t ≤ σ kR_limbs b + 1) ∧ RS t σ τ) ?_ ?_
  · refine wp_if (fun h => ?_) (fun h => ?_)
    · refine wp_bd (v_addSizes hσ t0 t1 a0 a1 b0 b1 ha hb) ?_
      rintro τ - ⟨hτ, f1, hv, hl, hs⟩
      rw [hA, hB] at hv
      refine wp_waI hτ b_kR_sign t0 t1 (by split <;> omega) (fun υ hυ e => wp_some ⟨hυ, ?_, ?_, ?_, ?_, ?_⟩)
      · exact FR_tr (ms := [kR_limbs, kR_sign, kR_w]) (FR_le (ms := [kR_limbs, kR_sign, kR_w]) f1 (by decide)) (FR_sg e) (by decide) (by decide)
      · have e1 : υ kR_sign t = (if σ kR_sign a = 0 then y else σ kR_sign a) := by rw [e]; exact sg_at _ _ _ _
        have e2 : υ kR_w = τ kR_w := by rw [e]; funext i; exact sg_nc (by decide)
        have e3 : υ kR_limbs t = τ kR_limbs t := by rw [e, sg_nc (by decide)]
        unfold RV
        rw [e1, e2, e3, hv]
        by_cases q : σ kR_sign a = 0
        · rw [if_pos q, q, za q]; grind
        · rw [if_neg q]
          by_cases r : y = 0
          · rw [r, zb r]; grind
          · have : σ kR_sign a = y := by omega
            rw [this, Int.mul_add]
      · intro q
        have e1 : υ kR_sign t = (if σ kR_sign a = 0 then y else σ kR_sign a) := by rw [e]; exact sg_at _ _ _ _
        have e2 : υ kR_w = τ kR_w := by rw [e]; funext i; exact sg_nc (by decide)
        have e3 : υ kR_limbs t = τ kR_limbs t := by rw [e, sg_nc (by decide)]
        rw [e2, e3, hv]
        rw [e1] at q
        split at q
        · rename_i g; rw [za g, zb q]; rfl
        · rename_i g; exact absurd q g
      · rw [e, sg_nc (by decide)]; exact hl
      · intro q q0 q1 hq
        obtain ⟨p1, p2, p3⟩ := hs q q0 q1 hq
        exact ⟨by rw [e, sg_nc (by decide)]; exact p1, by rw [e, sg_ni hq]; exact p2, fun i i0 i1 => by rw [e, sg_nc (by decide)]; exact p3 i i0 i1⟩
    · refine wp_bd (P := fun τ => II τ ∧ FR [kR_limbs, kR_sign, kR_w] σ τ ∧ RV τ t = σ kR_sign a * A + y * B ∧ (τ kR_sign t = 0 → lq_ (τ kR_w) (300 * t) (τ kR_limbs t).toNat = 0) ∧ (τ kR_limbs t ≤ σ kR_limbs a + 1 ∨ τ kR_limbs t ≤ σ kR_limbs b + 1) ∧ RS t σ τ) ?_ (fun _ _ q => wp_some q)
      refine wp_bd (v_sizes hσ a0 a1 b0 b1 na nb) ?_
      rintro x - ⟨x0, x1, x2, x3⟩
      rw [hA, hB] at x2 x3
      rw [w32_of (x := x) (by omega) (by omega)]
      have sy : y = -σ kR_sign a := by omega
      refine wp_if (fun g => ?_) (fun g => ?_)
      · obtain ⟨g1, g2⟩ := x2 g
        refine wp_bd (v_lessSizes hσ t0 t1 a0 a1 b0 b1 g1 (by rw [hA, hB]; exact g2)) ?_
        rintro τ - ⟨hτ, f1, hv, hl, hs⟩
        rw [hA, hB] at hv
        refine wp_waI hτ b_kR_sign t0 t1 (by omega) (fun υ hυ e => wp_some ⟨hυ, ?_, ?_, ?_, ?_, ?_⟩)
        · exact FR_tr (ms := [kR_limbs, kR_sign, kR_w]) (FR_le (ms := [kR_limbs, kR_sign, kR_w]) f1 (by decide)) (FR_sg e) (by decide) (by decide)
        · have e1 : υ kR_sign t = σ kR_sign a := by rw [e]; exact sg_at _ _ _ _
          have e2 : υ kR_w = τ kR_w := by rw [e]; funext i; exact sg_nc (by decide)
          have e3 : υ kR_limbs t = τ kR_limbs t := by rw [e, sg_nc (by decide)]
          unfold RV
          rw [e1, e2, e3, hv, sy]; grind
        · intro q
          have e1 : υ kR_sign t = σ kR_sign a := by rw [e]; exact sg_at _ _ _ _
          omega
        · rw [e, sg_nc (by decide)]; omega
        · intro q q0 q1 hq
          obtain ⟨p1, p2, p3⟩ := hs q q0 q1 hq
          exact ⟨by rw [e, sg_nc (by decide)]; exact p1, by rw [e, sg_ni hq]; exact p2, fun i i0 i1 => by rw [e, sg_nc (by decide)]; exact p3 i i0 i1⟩
      · obtain ⟨g1, g2⟩ := x3 (by omega)
        refine wp_bd (v_lessSizes hσ t0 t1 b0 b1 a0 a1 g1 (by rw [hA, hB]; exact g2)) ?_
        rintro τ - ⟨hτ, f1, hv, hl, hs⟩
        rw [hA, hB] at hv
        refine wp_waI hτ b_kR_sign t0 t1 (by omega) (fun υ hυ e => wp_some ⟨hυ, ?_, ?_, ?_, ?_, ?_⟩)
        · exact FR_tr (ms := [kR_limbs, kR_sign, kR_w]) (FR_le (ms := [kR_limbs, kR_sign, kR_w]) f1 (by decide)) (FR_sg e) (by decide) (by decide)
        · have e1 : υ kR_sign t = y := by rw [e]; exact sg_at _ _ _ _
          have e2 : υ kR_w = τ kR_w := by rw [e]; funext i; exact sg_nc (by decide)
          have e3 : υ kR_limbs t = τ kR_limbs t := by rw [e, sg_nc (by decide)]
          unfold RV
          rw [e1, e2, e3, hv, sy]; grind
        · intro q
          have e1 : υ kR_sign t = y := by rw [e]; exact sg_at _ _ _ _
          omega
        · rw [e, sg_nc (by decide)]; omega
        · intro q q0 q1 hq
          obtain ⟨p1, p2, p3⟩ := hs q q0 q1 hq
          exact ⟨by rw [e, sg_nc (by decide)]; exact p1, by rw [e, sg_ni hq]; exact p2, fun i i0 i1 => by rw [e, sg_nc (by decide)]; exact p3 i i0 i1⟩
  · rintro τ - ⟨hτ, f1, hv, hz, hl, hs⟩
    refine wp_bd (v_trim hτ t0 t1 hz) ?_
    rintro υ - ⟨hυ, f2, hn, hrv, hle, hs2⟩
    exact wp_some ⟨hυ, FR_tr (ms := [kR_limbs, kR_sign, kR_w]) f1 f2 (by decide) (by decide), hn, by rw [hrv, hv], by omega, RS_tr hs hs2⟩
end LIO
