section LIM
/-- the value of limbs -/
def lq_ (w : Int → Int) (base : Int) : Nat → Int
  | 0 => 0
  | n + 1 => lq_ w base n + w (base + n) * 2 ^ (32 * n)
theorem lq_s (w : Int → Int) (base : Int) (n : Nat) : lq_ w base (n + 1) = lq_ w base n + w (base + n) * 2 ^ (32 * n) := rfl
theorem p2_s (n : Nat) : (2 : Int) ^ (32 * (n + 1)) = 2 ^ (32 * n) * 4294967296 := by
  rw [Nat.mul_add, Int.pow_add]; rfl
theorem p2_pos (n : Nat) : (0 : Int) < 2 ^ n := Int.pow_pos (by decide)
theorem lq_cg {w v : Int → Int} {base base' : Int} : ∀ {n : Nat}, (∀ i : Int, 0 ≤ i → i < n → w (base + i) = v (base' + i)) → lq_ w base n = lq_ v base' n
  | 0, _ => rfl
  | n + 1, h => by
    unfold lq_
    rw [lq_cg (n := n) (fun i h0 h1 => h i h0 (by omega)), h n (by omega) (by omega)]
theorem lq_nn {w : Int → Int} {base : Int} : ∀ {n : Nat}, (∀ i : Int, 0 ≤ i → i < n → 0 ≤ w (base + i)) → 0 ≤ lq_ w base n
  | 0, _ => Int.le_refl 0
  | n + 1, h => by
    unfold lq_
    have a := lq_nn (n := n) (fun i h0 h1 => h i h0 (by omega))
    have b := Int.mul_nonneg (h n (by omega) (by omega)) (Int.le_of_lt (p2_pos (32 * n)))
    omega
theorem lq_lt {w : Int → Int} {base : Int} : ∀ {n : Nat}, (∀ i : Int, 0 ≤ i → i < n → 0 ≤ w (base + i) ∧ w (base + i) ≤ 4294967295) → lq_ w base n < 2 ^ (32 * n)
  | 0, _ => by show (0 : Int) < 2 ^ 0; decide
  | n + 1, h => by
    unfold lq_
    have a := lq_lt (n := n) (fun i h0 h1 => h i h0 (by omega))
    have c := h n (by omega) (by omega)
    have b := Int.mul_le_mul_of_nonneg_right c.2 (Int.le_of_lt (p2_pos (32 * n)))
    rw [p2_s]
    omega
theorem lq_pos {w : Int → Int} {base : Int} {n : Nat} (h : ∀ i : Int, 0 ≤ i → i < (n : Int) + 1 → 0 ≤ w (base + i)) (ht : w (base + n) ≠ 0) : 0 < lq_ w base (n + 1) := by
  unfold lq_
  have a := lq_nn (w := w) (base := base) (n := n) (fun i h0 h1 => h i h0 (by omega))
  have c := h n (by omega) (by omega)
  have b := Int.mul_pos (show 0 < w (base + n) by omega) (p2_pos (32 * n))
  omega
/-- a register: its value, and that it has no limb of 0 at the top -/
def RV (σ : SG) (r : Int) : Int := σ kR_sign r * lq_ (σ kR_w) (300 * r) (σ kR_limbs r).toNat
def NR (σ : SG) (r : Int) : Prop := (σ kR_limbs r = 0 → σ kR_sign r = 0) ∧ (0 < σ kR_limbs r → σ kR_sign r ≠ 0 ∧ σ kR_w (300 * r + (σ kR_limbs r - 1)) ≠ 0)
/-- registers beside t are as they were -/
def RS (t : Int) (σ τ : SG) : Prop := ∀ q : Int, 0 ≤ q → q < 20 → q ≠ t → τ kR_limbs q = σ kR_limbs q ∧ τ kR_sign q = σ kR_sign q ∧ ∀ i : Int, 0 ≤ i → i < 300 → τ kR_w (300 * q + i) = σ kR_w (300 * q + i)
theorem RS_tr {t : Int} {σ τ υ : SG} (a : RS t σ τ) (b : RS t τ υ) : RS t σ υ := by
  intro q h0 h1 h2
  obtain ⟨a1, a2, a3⟩ := a q h0 h1 h2
  obtain ⟨b1, b2, b3⟩ := b q h0 h1 h2
  exact ⟨b1.trans a1, b2.trans a2, fun i i0 i1 => (b3 i i0 i1).trans (a3 i i0 i1)⟩
theorem w_nn {σ : SG} (h : II σ) (base : Int) (n : Nat) : ∀ i : Int, 0 ≤ i → i < n → 0 ≤ (σ kR_w) (base + i) ∧ (σ kR_w) (base + i) ≤ 4294967295 := fun i _ _ => ii_kR_w h _
theorem RS_v {t q : Int} {σ τ : SG} (hσ : II σ) (a : RS t σ τ) (h0 : 0 ≤ q) (h1 : q < 20) (h2 : q ≠ t) : RV τ q = RV σ q ∧ (NR σ q → NR τ q) ∧ τ kR_limbs q = σ kR_limbs q := by
  obtain ⟨a1, a2, a3⟩ := a q h0 h1 h2
  have hl := ii_kR_limbs hσ q
  refine ⟨?_, ?_, a1⟩
  · unfold RV
    rw [a1, a2, lq_cg (base := 300 * q) (base' := 300 * q) (w := τ kR_w) (v := σ kR_w) (fun i i0 i1 => a3 i i0 (by omega))]
  · rintro ⟨k1, k2⟩
    refine ⟨fun e => by rw [a2]; exact k1 (by omega), fun e => ?_⟩
    obtain ⟨k3, k4⟩ := k2 (by omega)
    refine ⟨by rw [a2]; exact k3, ?_⟩
    rw [a1, a3 (σ kR_limbs q - 1) (by omega) (by omega)]
    exact k4
/-- the sign of a register is that of its value -/
theorem NR_sg {σ : SG} (hσ : II σ) {r : Int} (h : NR σ r) : (σ kR_sign r = 0 ↔ RV σ r = 0) ∧ (0 < σ kR_sign r ↔ 0 < RV σ r) ∧ (σ kR_sign r < 0 ↔ RV σ r < 0) := by
  have hl := ii_kR_limbs hσ r
  have hs := ii_kR_sign hσ r
  obtain ⟨k1, k2⟩ := h
  by_cases e : σ kR_limbs r = 0
  · have s0 := k1 e
    unfold RV
    rw [s0, Int.zero_mul]; omega
  · obtain ⟨k3, k4⟩ := k2 (by omega)
    obtain ⟨n, hn⟩ : ∃ n : Nat, (σ kR_limbs r).toNat = n + 1 := ⟨(σ kR_limbs r).toNat - 1, by omega⟩
    have hp : 0 < lq_ (σ kR_w) (300 * r) (σ kR_limbs r).toNat := by
      rw [hn]
      refine lq_pos (fun i _ _ => (ii_kR_w hσ _).1) ?_
      have : (n : Int) = σ kR_limbs r - 1 := by omega
      rw [this]; exact k4
    unfold RV
    generalize lq_ (σ kR_w) (300 * r) (σ kR_limbs r).toNat = v at hp
    have : σ kR_sign r = 1 ∨ σ kR_sign r = -1 := by omega
    rcases this with s | s <;> rw [s] <;> omega
theorem v_trim {σ : SG} {r : Int} (hσ : II σ) (r0 : 0 ≤ r) (r1 : r < 20) (hz : σ kR_sign r = 0 → lq_ (σ kR_w) (300 * r) (σ kR_limbs r).toNat = 0) : wp_ (fR_trim σ r) (fun τ => II τ ∧ FR [kR_limbs, kR_sign] σ τ ∧ NR τ r ∧ RV τ r = RV σ r ∧ τ kR_limbs r ≤ σ kR_limbs r ∧ RS r σ τ) := by
  unfold fR_trim
  have hr : w32 r = r := w32_of (by omega) (by omega)
  rw [hr]
  refine wp_bd (P := fun τ => II τ ∧ (∀ c i, ¬ (c = kR_limbs ∧ i = r) → τ c i = σ c i) ∧ τ kR_limbs r ≤ σ kR_limbs r ∧ lq_ (σ kR_w) (300 * r) (τ kR_limbs r).toNat = lq_ (σ kR_w) (300 * r) (σ kR_limbs r).toNat ∧ (0 < τ kR_limbs r → σ kR_w (300 * r + (τ kR_limbs r - 1)) ≠ 0)) ?_ ?_
  · refine wp_whl (fun τ => II τ ∧ (∀ c i, ¬ (c = kR_limbs ∧ i = r) → τ c i = σ c i) ∧ τ kR_limbs r ≤ σ kR_limbs r ∧ lq_ (σ kR_w) (300 * r) (τ kR_limbs r).toNat = lq_ (σ kR_w) (300 * r) (σ kR_limbs r).toNat) (fun τ => (τ kR_limbs r).toNat) ⟨hσ, fun _ _ _ => rfl, Int.le_refl _, rfl⟩ ?_
    rintro τ ⟨hτ, hf, hle, hv⟩
    have hl := ii_kR_limbs hτ r
    refine wp_rd r0 r1 ?_
    rw [w32_of (x := τ kR_limbs r) (by omega) (by omega)]
    refine wp_if (fun h => ?_) (fun h => ?_)
    · refine wp_rd r0 r1 ?_
      rw [w32_of (x := 300 * r + τ kR_limbs r - 1) (by omega) (by omega)]
      refine wp_rd (by omega) (by omega) ?_
      have hw := ii_kR_w hτ (300 * r + τ kR_limbs r - 1)
      have hwe : τ kR_w (300 * r + τ kR_limbs r - 1) = σ kR_w (300 * r + (τ kR_limbs r - 1)) := by
        rw [hf _ _ (fun q => absurd q.1 (by decide))]; congr 1; omega
      rw [w64_of (x := τ kR_w (300 * r + τ kR_limbs r - 1)) (by omega) (by omega)]
      refine wp_if (fun g => ?_) (fun g => ?_)
      · refine wp_rd r0 r1 ?_
        refine wp_waI hτ b_kR_limbs r0 r1 (by omega) (fun υ hυ e => ?_)
        have el : υ kR_limbs r = τ kR_limbs r - 1 := by rw [e]; exact sg_at _ _ _ _
        refine wp_inl ⟨hυ, ?_, by omega, ?_⟩ (by show (υ kR_limbs r).toNat < (τ kR_limbs r).toNat; omega)
        · intro c i q; rw [e, sg_ne q]; exact hf c i q
        · rw [el, ← hv]
          obtain ⟨n, hn⟩ : ∃ n : Nat, τ kR_limbs r = n + 1 := ⟨(τ kR_limbs r).toNat - 1, by omega⟩
          have e1 : (τ kR_limbs r - 1).toNat = n := by omega
          have e2 : (τ kR_limbs r).toNat = n + 1 := by omega
          rw [e1, e2]
          show _ = lq_ (σ kR_w) (300 * r) n + _
          rw [hwe] at g
          have e3 : (300 * r + (τ kR_limbs r - 1)) = 300 * r + n := by omega
          rw [e3] at g
          rw [g, Int.zero_mul, Int.add_zero]
      · exact wp_inr ⟨hτ, hf, hle, hv, fun _ => by rw [← hwe]; exact g⟩
    · exact wp_inr ⟨hτ, hf, hle, hv, fun q => absurd q (by omega)⟩
  · rintro τ - ⟨hτ, hf, hle, hv, ht⟩
    have hl := ii_kR_limbs hτ r
    have hsg : τ kR_sign r = σ kR_sign r := hf _ _ (fun q => absurd q.1 (by decide))
    have hw : τ kR_w = σ kR_w := by funext i; exact hf _ _ (fun q => absurd q.1 (by decide))
    refine wp_bd (P := fun υ => II υ ∧ FR [kR_limbs, kR_sign] σ υ ∧ NR υ r ∧ RV υ r = RV σ r ∧ υ kR_limbs r ≤ σ kR_limbs r ∧ RS r σ υ) ?_ (fun υ _ h => wp_some h)
    refine wp_rd r0 r1 ?_
    rw [w32_of (x := τ kR_limbs r) (by omega) (by omega)]
    have hfr : FR [kR_limbs, kR_sign] σ τ := by
      intro c hc
      funext i
      exact hf c i (fun q => hc (by rw [q.1]; exact List.mem_cons_self))
    have hrs : RS r σ τ := fun q _ _ hq => ⟨hf _ _ (fun h => hq h.2), hf _ _ (fun q => absurd q.1 (by decide)), fun i _ _ => hf _ _ (fun q => absurd q.1 (by decide))⟩
    refine wp_if (fun h => ?_) (fun h => ?_)
    · refine wp_waI hτ b_kR_sign r0 r1 (by omega) (fun υ hυ e => ?_)
      have z0 : lq_ (σ kR_w) (300 * r) (σ kR_limbs r).toNat = 0 := by rw [← hv, h]; rfl
      refine wp_some ⟨hυ, ?_, ?_, ?_, ?_, ?_⟩
      · exact FR_tr (ms := [kR_limbs, kR_sign]) hfr (FR_sg e) (by decide) (by decide)
      · have l0 : υ kR_limbs r = 0 := by rw [e, sg_nc (by decide)]; exact h
        have s0 : υ kR_sign r = 0 := by rw [e]; exact sg_at _ _ _ _
        exact ⟨fun _ => s0, fun q => absurd q (by omega)⟩
      · unfold RV
        rw [z0, Int.mul_zero]
        have s0 : υ kR_sign r = 0 := by rw [e]; exact sg_at _ _ _ _
        rw [s0, Int.zero_mul]
      · rw [e, sg_nc (by decide)]; exact hle
      · intro q q0 q1 hq
        obtain ⟨a1, a2, a3⟩ := hrs q q0 q1 hq
        refine ⟨by rw [e, sg_nc (by decide)]; exact a1, by rw [e, sg_ni hq]; exact a2, fun i i0 i1 => by rw [e, sg_nc (by decide)]; exact a3 i i0 i1⟩
    · refine wp_some ⟨hτ, hfr, ⟨fun q => absurd q h, fun q => ⟨fun s0 => ?_, ?_⟩⟩, ?_, hle, hrs⟩
      · rw [hsg] at s0
        have z0 := hz s0
        rw [← hv] at z0
        obtain ⟨n, hn⟩ : ∃ n : Nat, (τ kR_limbs r).toNat = n + 1 := ⟨(τ kR_limbs r).toNat - 1, by omega⟩
        have : 0 < lq_ (σ kR_w) (300 * r) (n + 1) := by
          refine lq_pos (fun i _ _ => (ii_kR_w hσ _).1) ?_
          have e3 : (n : Int) = τ kR_limbs r - 1 := by omega
          rw [e3]; exact ht q
        rw [hn] at z0
        omega
      · rw [hw]; exact ht q
      · unfold RV
        rw [hsg, hw, hv]
end LIM
