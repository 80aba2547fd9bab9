section LIT
/-- one limb written -/
theorem lq_up {w v : Int → Int} {base p x : Int} (hp : v (base + p) = x) (ho : ∀ i : Int, i ≠ p → v (base + i) = w (base + i)) : ∀ {n : Nat}, 0 ≤ p → lq_ v base n = lq_ w base n + (if p < n then (x - w (base + p)) * 2 ^ (32 * p.toNat) else 0)
  | 0, h => by
    rw [if_neg (by omega)]; rfl
  | n + 1, h => by
    unfold lq_
    rw [lq_up hp ho (n := n) h]
    by_cases q : p = n
    · have e : p.toNat = n := by omega
      rw [if_neg (by omega), if_pos (by omega), ← q, hp, e, q]
      generalize (2 : Int) ^ (32 * n) = P
      grind
    · rw [ho n (by omega)]
      by_cases r : p < n
      · rw [if_pos r, if_pos (by omega)]; omega
      · rw [if_neg r, if_neg (by omega)]; omega
theorem p2_add (a b : Nat) : (2 : Int) ^ (32 * (a + b)) = 2 ^ (32 * a) * 2 ^ (32 * b) := by rw [Nat.mul_add, Int.pow_add]
theorem lq_z {w : Int → Int} {base : Int} : ∀ {n : Nat}, (∀ i : Int, 0 ≤ i → i < n → w (base + i) = 0) → lq_ w base n = 0
  | 0, _ => rfl
  | n + 1, h => by
    unfold lq_
    rw [lq_z (n := n) (fun i h0 h1 => h i h0 (by omega)), h n (by omega) (by omega)]
    omega
theorem v_times {σ : SG} {t a b : Int} (hσ : II σ) (t0 : 0 ≤ t) (t1 : t < 20) (a0 : 0 ≤ a) (a1 : a < 20) (b0 : 0 ≤ b) (b1 : b < 20) (ta : t ≠ a) (tb : t ≠ b) (hl : σ kR_limbs a + σ kR_limbs b ≤ 300) (na : NR σ a) (nb : NR σ b) : wp_ (fR_times σ t a b) (fun τ => II τ ∧ FR [kR_limbs, kR_sign, kR_w] σ τ ∧ NR τ t ∧ RV τ t = RV σ a * RV σ b ∧ τ kR_limbs t ≤ σ kR_limbs a + σ kR_limbs b ∧ RS t σ τ) := by
  unfold fR_times
  have la := ii_kR_limbs hσ a
  have lb := ii_kR_limbs hσ b
  rw [w32_of (x := a) (by omega) (by omega), w32_of (x := b) (by omega) (by omega), w32_of (x := t) (by omega) (by omega)]
  refine wp_rd a0 a1 (wp_rd b0 b1 ?_)
  rw [w32_of (x := σ kR_limbs a + σ kR_limbs b) (by omega) (by omega)]
  refine wp_bd (P := fun x => II x.2 ∧ (∀ c i, ¬ (c = kR_w ∧ 300 * t ≤ i ∧ i < 300 * t + 300) → x.2 c i = σ c i) ∧ ∀ i : Int, 0 ≤ i → i < σ kR_limbs a + σ kR_limbs b → x.2 kR_w (300 * t + i) = 0) ?_ ?_
  · refine wp_whl (fun x => II x.2 ∧ 0 ≤ x.1 ∧ x.1 ≤ σ kR_limbs a + σ kR_limbs b ∧ (∀ c i, ¬ (c = kR_w ∧ 300 * t ≤ i ∧ i < 300 * t + 300) → x.2 c i = σ c i) ∧ ∀ i : Int, 0 ≤ i → i < x.1 → x.2 kR_w (300 * t + i) = 0) (fun x => (σ kR_limbs a + σ kR_limbs b - x.1).toNat) ⟨hσ, Int.le_refl 0, by dsimp only; omega, fun _ _ _ => rfl, fun i i0 i1 => absurd i1 (by dsimp only; omega)⟩ ?_
    rintro ⟨k, τ⟩ ⟨hτ, k0, k1, hf, hz⟩
    dsimp only at hτ k0 k1 hf hz ⊢
    rw [w32_of (x := k) (by omega) (by omega)]
    refine wp_if (fun h => ?_) (fun h => ?_)
    · rw [w32_of (x := 300 * t + k) (by omega) (by omega)]
      refine wp_waI hτ b_kR_w (by omega) (by omega) (by decide) (fun υ hυ e => ?_)
      refine wp_il ⟨⟨hυ, by show 0 ≤ k + 1; omega, by show k + 1 ≤ _; omega, ?_, ?_⟩, by show (σ kR_limbs a + σ kR_limbs b - (k + 1)).toNat < (σ kR_limbs a + σ kR_limbs b - k).toNat; omega⟩
      · intro c i q
        dsimp only at q ⊢
        rw [e, sg_ne (by intro r; exact q ⟨r.1, by omega, by omega⟩)]
        exact hf c i q
      · intro i i0 i1
        dsimp only at i1 ⊢
        by_cases q : i = k
        · rw [q, e]; exact sg_at _ _ _ _
        · rw [e, sg_ni (by omega)]; exact hz i i0 (by omega)
    · exact wp_ir ⟨hτ, hf, fun i i0 i1 => hz i i0 (by omega)⟩
  rintro ⟨k, τ⟩ - ⟨hτ, hf, hz⟩
  dsimp only at hτ hf hz ⊢
  generalize hA : σ kR_limbs a = A at *
  generalize hB : σ kR_limbs b = B at *
  refine wp_bd (P := fun x => II x.2 ∧ (∀ c i, ¬ (c = kR_w ∧ 300 * t ≤ i ∧ i < 300 * t + 300) → x.2 c i = σ c i) ∧ lq_ (x.2 kR_w) (300 * t) (A + B).toNat = lq_ (σ kR_w) (300 * a) A.toNat * lq_ (σ kR_w) (300 * b) B.toNat) ?_ ?_
  · refine wp_whl (fun x => II x.2 ∧ 0 ≤ x.1 ∧ x.1 ≤ A ∧ (∀ c i, ¬ (c = kR_w ∧ 300 * t ≤ i ∧ i < 300 * t + 300) → x.2 c i = σ c i) ∧ lq_ (x.2 kR_w) (300 * t) (A + B).toNat = lq_ (σ kR_w) (300 * a) x.1.toNat * lq_ (σ kR_w) (300 * b) B.toNat ∧ ∀ i : Int, x.1 + B ≤ i → i < A + B → x.2 kR_w (300 * t + i) = 0) (fun x => (A - x.1).toNat) ⟨hτ, Int.le_refl 0, la.1, hf, ?_, fun i i0 i1 => hz i (by dsimp only at i0; omega) i1⟩ ?_
    · dsimp only
      rw [lq_z (fun i i0 i1 => hz i i0 (by omega))]
      show (0 : Int) = 0 * _
      omega
    rintro ⟨i, υ⟩ ⟨hυ, i0, i1, hg, hv, hy⟩
    dsimp only at hυ i0 i1 hg hv hy ⊢
    refine wp_rd a0 a1 ?_
    have eA : υ kR_limbs a = A := by rw [hg _ _ (by intro r; exact absurd r.1 (by decide))]; exact hA
    rw [eA, w32_of (x := i) (by omega) (by omega), w32_of (x := A) (by omega) (by omega)]
    refine wp_if (fun h => ?_) (fun h => ?_)
    · have ni : (i + 1).toNat = i.toNat + 1 := by omega
      have ii : ((i.toNat : Nat) : Int) = i := by omega
      generalize hW : σ kR_w (300 * a + i) = W
      generalize hL : lq_ (υ kR_w) (300 * t) (A + B).toNat = L0 at *
      have bW : 0 ≤ W ∧ W ≤ 4294967295 := by rw [← hW]; exact ii_kR_w hσ _
      refine wp_bd (P := fun x => II x.2.2 ∧ 0 ≤ x.1 ∧ x.1 ≤ 4294967295 ∧ (∀ c i, ¬ (c = kR_w ∧ 300 * t ≤ i ∧ i < 300 * t + 300) → x.2.2 c i = σ c i) ∧ lq_ (x.2.2 kR_w) (300 * t) (A + B).toNat + x.1 * 2 ^ (32 * (i.toNat + B.toNat)) = L0 + W * 2 ^ (32 * i.toNat) * lq_ (σ kR_w) (300 * b) B.toNat ∧ ∀ l : Int, i + B ≤ l → l < A + B → x.2.2 kR_w (300 * t + l) = 0) ?_ ?_
      · refine wp_whl (fun x => II x.2.2 ∧ 0 ≤ x.2.1 ∧ x.2.1 ≤ B ∧ 0 ≤ x.1 ∧ x.1 ≤ 4294967295 ∧ (∀ c i, ¬ (c = kR_w ∧ 300 * t ≤ i ∧ i < 300 * t + 300) → x.2.2 c i = σ c i) ∧ lq_ (x.2.2 kR_w) (300 * t) (A + B).toNat + x.1 * 2 ^ (32 * (i.toNat + x.2.1.toNat)) = L0 + W * 2 ^ (32 * i.toNat) * lq_ (σ kR_w) (300 * b) x.2.1.toNat ∧ ∀ l : Int, i + B ≤ l → l < A + B → x.2.2 kR_w (300 * t + l) = 0) (fun x => (B - x.2.1).toNat) ⟨hυ, Int.le_refl 0, lb.1, Int.le_refl 0, by show (0 : Int) ≤ 4294967295; decide, hg, ?_, hy⟩ ?_
        · dsimp only
          rw [hL]
          show L0 + 0 * _ = L0 + _ * 0
          omega
        rintro ⟨c, j, ω⟩ ⟨hω, j0, j1, c0, c1, hh, hw, hx⟩
        dsimp only at hω j0 j1 c0 c1 hh hw hx ⊢
        refine wp_rd b0 b1 ?_
        have eB : ω kR_limbs b = B := by rw [hh _ _ (by intro r; exact absurd r.1 (by decide))]; exact hB
        rw [eB, w32_of (x := j) (by omega) (by omega), w32_of (x := B) (by omega) (by omega)]
        refine wp_if (fun g => ?_) (fun g => ?_)
        · rw [w32_of (x := 300 * a + i) (by omega) (by omega), w32_of (x := 300 * b + j) (by omega) (by omega), w32_of (x := 300 * t + i + j) (by omega) (by omega)]
          refine wp_rd (by omega) (by omega) (wp_rd (by omega) (by omega) (wp_rd (by omega) (by omega) ?_))
          have e1 : ω kR_w (300 * a + i) = W := by rw [hh _ _ (by omega)]; exact hW
          have e2 : ω kR_w (300 * b + j) = σ kR_w (300 * b + j) := hh _ _ (by omega)
          rw [e1, e2]
          have bV := ii_kR_w hσ (300 * b + j)
          have bO := ii_kR_w hω (300 * t + i + j)
          generalize hV : σ kR_w (300 * b + j) = V at *
          generalize hO : ω kR_w (300 * t + i + j) = O at *
          have bp : 0 ≤ W * V ∧ W * V ≤ 4294967295 * 4294967295 := ⟨Int.mul_nonneg bW.1 bV.1, by
            have := Int.mul_le_mul bW.2 bV.2 bV.1 (by decide : (0 : Int) ≤ 4294967295)
            exact this⟩
          obtain ⟨s1, s2, s3, s4, s5⟩ := split32 (x := W * V + O + c) (by omega) (by omega)
          refine wp_waI hω b_kR_w (by omega) (by omega) ⟨s2, s3⟩ (fun ψ hψ e => ?_)
          have nj : (j + 1).toNat = j.toNat + 1 := by omega
          have jj : ((j.toNat : Nat) : Int) = j := by omega
          refine wp_il ⟨⟨hψ, by show 0 ≤ j + 1; omega, by show j + 1 ≤ B; omega, s4, s5, ?_, ?_, ?_⟩, by show (B - (j + 1)).toNat < (B - j).toNat; omega⟩
          · intro c' i' q
            dsimp only at q ⊢
            rw [e, sg_ne (by intro r; exact q ⟨r.1, by omega, by omega⟩)]
            exact hh c' i' q
          · dsimp only
            have up := lq_up (w := ω kR_w) (v := ψ kR_w) (base := 300 * t) (p := i + j) (x := q_lan (W * V + O + c) 4294967295) (by rw [show 300 * t + (i + j) = 300 * t + i + j by omega, e]; exact sg_at _ _ _ _) (fun l hl => by rw [e, sg_ni (by omega)]) (n := (A + B).toNat) (by omega)
            rw [if_pos (by omega), show 300 * t + (i + j) = 300 * t + i + j by omega, hO, show (i + j).toNat = i.toNat + j.toNat by omega] at up
            rw [up, nj]
            show _ = L0 + W * 2 ^ (32 * i.toNat) * (lq_ (σ kR_w) (300 * b) j.toNat + σ kR_w (300 * b + j.toNat) * 2 ^ (32 * j.toNat))
            rw [jj, hV, show i.toNat + (j.toNat + 1) = (i.toNat + j.toNat) + 1 by omega, p2_s]
            rw [p2_add] at hw ⊢
            generalize (2 : Int) ^ (32 * i.toNat) = P at hw ⊢
            generalize (2 : Int) ^ (32 * j.toNat) = Q at hw ⊢
            generalize q_lan (W * V + O + c) 4294967295 = lo at s1 ⊢
            generalize q_lus (W * V + O + c) 32 = hi at s1 ⊢
            clear up
            grind
          · intro l l0 l1
            dsimp only
            rw [e, sg_ni (by omega)]
            exact hx l l0 l1
        · have : j = B := by omega
          subst this
          exact wp_ir ⟨hω, c0, c1, hh, hw, hx⟩
      · rintro ⟨c, j, ω⟩ - ⟨hω, c0, c1, hh, hw, hx⟩
        dsimp only at hω c0 c1 hh hw hx ⊢
        refine wp_rd b0 b1 ?_
        have eB : ω kR_limbs b = B := by rw [hh _ _ (by intro r; exact absurd r.1 (by decide))]; exact hB
        rw [eB, w32_of (x := 300 * t + i + B) (by omega) (by omega)]
        refine wp_waI hω b_kR_w (by omega) (by omega) ⟨c0, c1⟩ (fun ψ hψ e => ?_)
        refine wp_il ⟨⟨hψ, by show 0 ≤ i + 1; omega, by show i + 1 ≤ A; omega, ?_, ?_, ?_⟩, by show (A - (i + 1)).toNat < (A - i).toNat; omega⟩
        · intro c' i' q
          dsimp only at q ⊢
          rw [e, sg_ne (by intro r; exact q ⟨r.1, by omega, by omega⟩)]
          exact hh c' i' q
        · dsimp only
          have up := lq_up (w := ω kR_w) (v := ψ kR_w) (base := 300 * t) (p := i + B) (x := c) (by rw [show 300 * t + (i + B) = 300 * t + i + B by omega, e]; exact sg_at _ _ _ _) (fun l hl => by rw [e, sg_ni (by omega)]) (n := (A + B).toNat) (by omega)
          have z := hx (i + B) (by omega) (by omega)
          rw [if_pos (by omega), z, show (i + B).toNat = i.toNat + B.toNat by omega, Int.sub_zero] at up
          rw [up, hw, hv, ni]
          show _ = (lq_ (σ kR_w) (300 * a) i.toNat + σ kR_w (300 * a + i.toNat) * 2 ^ (32 * i.toNat)) * _
          rw [ii, hW, Int.add_mul]
        · intro l l0 l1
          dsimp only at l0 ⊢
          rw [e, sg_ni (by omega)]
          exact hx l (by omega) l1
    · have : i = A := by omega
      subst this
      exact wp_ir ⟨hυ, hg, hv⟩
  rintro ⟨i, υ⟩ - ⟨hυ, hg, hv⟩
  dsimp only at hυ hg hv ⊢
  refine wp_waI hυ b_kR_limbs t0 t1 (by omega) (fun ψ hψ e => ?_)
  refine wp_rd a0 a1 (wp_rd b0 b1 ?_)
  have sa := ii_kR_sign hσ a
  have sb := ii_kR_sign hσ b
  have ea : ψ kR_sign a = σ kR_sign a := by rw [e, sg_nc (by decide)]; exact hg _ _ (by intro r; exact absurd r.1 (by decide))
  have eb : ψ kR_sign b = σ kR_sign b := by rw [e, sg_nc (by decide)]; exact hg _ _ (by intro r; exact absurd r.1 (by decide))
  rw [ea, eb]
  have bs : -1 ≤ σ kR_sign a * σ kR_sign b ∧ σ kR_sign a * σ kR_sign b ≤ 1 := by
    rcases (show σ kR_sign a = -1 ∨ σ kR_sign a = 0 ∨ σ kR_sign a = 1 by omega) with q | q | q <;> rw [q] <;> omega
  refine wp_waI hψ b_kR_sign t0 t1 bs (fun ω hω f => ?_)
  have w1 : ω kR_limbs t = A + B := by rw [f, sg_nc (by decide), e]; exact sg_at _ _ _ _
  have w2 : ω kR_sign t = σ kR_sign a * σ kR_sign b := by rw [f]; exact sg_at _ _ _ _
  have w3 : ω kR_w = υ kR_w := by rw [f]; funext l; rw [sg_nc (by decide), e, sg_nc (by decide)]
  have hfr : FR [kR_limbs, kR_sign, kR_w] σ υ := by
    intro c' hc
    funext l
    exact hg c' l (fun q => hc (by rw [q.1]; exact List.mem_cons_of_mem _ (List.mem_cons_of_mem _ List.mem_cons_self)))
  have hrv : RV ω t = RV σ a * RV σ b := by
    unfold RV
    rw [w1, w2, w3, hv, hA, hB]; grind
  have hz0 : ω kR_sign t = 0 → lq_ (ω kR_w) (300 * t) (ω kR_limbs t).toNat = 0 := by
    intro q
    rw [w1, w3, hv]
    rw [w2] at q
    rcases Int.mul_eq_zero.mp q with r | r
    · have := RV_0 hσ na r
      rw [hA] at this
      rw [this, Int.zero_mul]
    · have := RV_0 hσ nb r
      rw [hB] at this
      rw [this, Int.mul_zero]
  have hrs : RS t σ ω := by
    intro q q0 q1 hq
    refine ⟨?_, ?_, fun l l0 l1 => ?_⟩
    · rw [f, sg_nc (by decide), e, sg_ni hq]; exact hg _ _ (by intro r; exact absurd r.1 (by decide))
    · rw [f, sg_ni hq, e, sg_nc (by decide)]; exact hg _ _ (by intro r; exact absurd r.1 (by decide))
    · rw [w3]; exact hg _ _ (by omega)
  refine wp_bd (v_trim hω t0 t1 hz0) ?_
  rintro φ - ⟨hφ, f2, hn, hr2, hle, hs2⟩
  refine wp_some ⟨hφ, ?_, hn, by rw [hr2, hrv], by omega, RS_tr hrs hs2⟩
  exact FR_tr (ms := [kR_limbs, kR_sign, kR_w]) (FR_tr (ms := [kR_limbs, kR_sign, kR_w]) (FR_tr (ms := [kR_limbs, kR_sign, kR_w]) hfr (FR_sg e) (by decide) (by decide)) (FR_sg f) (by decide) (by decide)) f2 (by decide) (by decide)
theorem v_set {σ : SG} {t v : Int} (hσ : II σ) (t0 : 0 ≤ t) (t1 : t < 20) (v0 : -9223372036854775808 < v) (v1 : v < 9223372036854775808) : wp_ (fR_set σ t v) (fun τ => II τ ∧ FR [kR_limbs, kR_sign, kR_w] σ τ ∧ NR τ t ∧ RV τ t = v ∧ τ kR_limbs t ≤ 2 ∧ RS t σ τ) := by
  unfold fR_set
  rw [w64_of (x := v) (by omega) (by omega), w32_of (x := t) (by omega) (by omega), w32_of (x := 300 * t) (by omega) (by omega), w32_of (x := 300 * t + 1) (by omega) (by omega)]
  generalize hm : (if v < 0 then -v else v) = m
  have bm : 0 ≤ m ∧ m < 9223372036854775808 := by rw [← hm]; split <;> omega
  obtain ⟨s1, s2, s3, s4, s5⟩ := split32 (x := m) (by omega) (by omega)
  refine wp_waI hσ b_kR_w (by omega) (by omega) ⟨s2, s3⟩ (fun σ1 h1 e1 => ?_)
  refine wp_waI h1 b_kR_w (by omega) (by omega) ⟨s4, s5⟩ (fun σ2 h2 e2 => ?_)
  refine wp_waI h2 b_kR_limbs t0 t1 (by decide) (fun σ3 h3 e3 => ?_)
  refine wp_waI h3 b_kR_sign t0 t1 (by split <;> decide) (fun σ4 h4 e4 => ?_)
  have w0 : σ4 kR_w (300 * t + 0) = q_lan m 4294967295 := by
    rw [e4, sg_nc (by decide), e3, sg_nc (by decide), e2, sg_ni (by omega), e1, Int.add_zero]; exact sg_at _ _ _ _
  have w1 : σ4 kR_w (300 * t + 1) = q_lus m 32 := by
    rw [e4, sg_nc (by decide), e3, sg_nc (by decide), e2]; exact sg_at _ _ _ _
  have wl : σ4 kR_limbs t = 2 := by rw [e4, sg_nc (by decide), e3]; exact sg_at _ _ _ _
  have ws : σ4 kR_sign t = (if v < 0 then -1 else 1) := by rw [e4]; exact sg_at _ _ _ _
  have hlv : lq_ (σ4 kR_w) (300 * t) (σ4 kR_limbs t).toNat = m := by
    rw [wl]
    show (0 + σ4 kR_w (300 * t + 0) * 2 ^ (32 * 0)) + σ4 kR_w (300 * t + 1) * 2 ^ (32 * 1) = m
    rw [w0, w1]
    have p0 : (2 : Int) ^ (32 * 0) = 1 := rfl
    have p1 : (2 : Int) ^ (32 * 1) = 4294967296 := rfl
    rw [p0, p1]; omega
  have hrv : RV σ4 t = v := by
    unfold RV
    rw [hlv, ws, ← hm]; split <;> omega
  have hrs : RS t σ σ4 := by
    intro q q0 q1 hq
    refine ⟨?_, ?_, fun l l0 l1 => ?_⟩
    · rw [e4, sg_nc (by decide), e3, sg_ni hq, e2, sg_nc (by decide), e1, sg_nc (by decide)]
    · rw [e4, sg_ni hq, e3, sg_nc (by decide), e2, sg_nc (by decide), e1, sg_nc (by decide)]
    · rw [e4, sg_nc (by decide), e3, sg_nc (by decide), e2, sg_ni (by omega), e1, sg_ni (by omega)]
  refine wp_bd (v_trim h4 t0 t1 (fun q => by rw [ws] at q; split at q <;> omega)) ?_
  rintro φ - ⟨hφ, f2, hn, hr2, hle, hs2⟩
  refine wp_some ⟨hφ, ?_, hn, by rw [hr2, hrv], by omega, RS_tr hrs hs2⟩
  have g1 := FR_tr (ms := [kR_limbs, kR_sign, kR_w]) (FR_sg e1) (FR_sg e2) (by decide) (by decide)
  have g2 := FR_tr (ms := [kR_limbs, kR_sign, kR_w]) g1 (FR_sg e3) (by decide) (by decide)
  have g3 := FR_tr (ms := [kR_limbs, kR_sign, kR_w]) g2 (FR_sg e4) (by decide) (by decide)
  exact FR_tr (ms := [kR_limbs, kR_sign, kR_w]) g3 f2 (by decide) (by decide)
end LIT
