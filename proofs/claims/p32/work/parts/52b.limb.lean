section LIN
theorem wp_il {S R : Type} {s' : S} {P : S → Prop} {Q : R → Prop} (h : P s') : wp_ (some (Sum.inl s' : S ⊕ R)) (fun o => (∀ s', o = .inl s' → P s') ∧ (∀ r, o = .inr r → Q r)) := ⟨_, rfl, fun _ e => by cases e; exact h, fun _ e => nomatch e⟩
theorem wp_ir {S R : Type} {r : R} {P : S → Prop} {Q : R → Prop} (h : Q r) : wp_ (some (Sum.inr r : S ⊕ R)) (fun o => (∀ s', o = .inl s' → P s') ∧ (∀ r, o = .inr r → Q r)) := ⟨_, rfl, ⟨fun _ e => (by cases e), fun _ e => by cases e; exact h⟩⟩
theorem lan32 (x : Int) : q_lan x 4294967295 = x % 4294967296 := by
  show ((Int64.ofInt x).toBitVec &&& (Int64.ofInt 4294967295).toBitVec).toInt = _
  have ha : (Int64.ofInt x).toBitVec.toNat = (x % 18446744073709551616).toNat := by
    show (BitVec.ofInt 64 x).toNat = _
    rw [BitVec.toNat_ofInt]; rfl
  have hb : (Int64.ofInt 4294967295).toBitVec.toNat = 2 ^ 32 - 1 := by decide
  have hc : ((Int64.ofInt x).toBitVec &&& (Int64.ofInt 4294967295).toBitVec).toNat = (x % 18446744073709551616).toNat % 4294967296 := by
    rw [BitVec.toNat_and, hb, ha, Nat.and_two_pow_sub_one_eq_mod]
  have h0 : (0 : Int) ≤ x % 18446744073709551616 := Int.emod_nonneg _ (by decide)
  rw [BitVec.toInt_eq_toNat_of_lt (by omega), hc]
  omega
theorem lus32 (x : Int) : q_lus x 32 = (x % 18446744073709551616) / 4294967296 := by
  unfold q_lus
  have e : ((Int32.ofInt 32).toInt64.toUInt64 &&& Int64.toUInt64 63) = 32 := by decide
  rw [e]
  show ((Int64.ofInt x).toUInt64 >>> 32).toBitVec.toInt = _
  have ha : ((Int64.ofInt x).toUInt64 >>> 32).toBitVec.toNat = (x % 18446744073709551616).toNat / 4294967296 := by
    rw [UInt64.toBitVec_shiftRight]
    show ((BitVec.ofInt 64 x) >>> 32).toNat = _
    rw [BitVec.toNat_ushiftRight, BitVec.toNat_ofInt, Nat.shiftRight_eq_div_pow]; rfl
  have h0 : (0 : Int) ≤ x % 18446744073709551616 := Int.emod_nonneg _ (by decide)
  have h1 : x % 18446744073709551616 < 18446744073709551616 := Int.emod_lt_of_pos _ (by decide)
  rw [BitVec.toInt_eq_toNat_of_lt (by omega), ha]
  omega
theorem split32 {x : Int} (h0 : 0 ≤ x) (h1 : x < 18446744073709551616) : q_lan x 4294967295 + q_lus x 32 * 4294967296 = x ∧ 0 ≤ q_lan x 4294967295 ∧ q_lan x 4294967295 ≤ 4294967295 ∧ 0 ≤ q_lus x 32 ∧ q_lus x 32 ≤ 4294967295 := by
  rw [lan32, lus32]; omega
/-- the limbs of a, 0 behind its own ones -/
def la_ (σ : SG) (a : Int) (k : Int) : Int := if k < σ kR_limbs a then σ kR_w (300 * a + k) else 0
def ll_ (f : Int → Int) : Nat → Int
  | 0 => 0
  | n + 1 => ll_ f n + f n * 2 ^ (32 * n)
theorem ll_cg {f g : Int → Int} : ∀ {n : Nat}, (∀ i : Int, 0 ≤ i → i < n → f i = g i) → ll_ f n = ll_ g n
  | 0, _ => rfl
  | n + 1, h => by
    unfold ll_
    rw [ll_cg (n := n) (fun i h0 h1 => h i h0 (by omega)), h n (by omega) (by omega)]
theorem ll_lv (w : Int → Int) (base : Int) : ∀ n : Nat, ll_ (fun i => w (base + i)) n = lq_ w base n
  | 0 => rfl
  | n + 1 => by unfold ll_ lq_; rw [ll_lv w base n]
theorem ll_la {σ : SG} {a : Int} (h0 : 0 ≤ σ kR_limbs a) : ∀ {n : Nat}, σ kR_limbs a ≤ n → ll_ (la_ σ a) n = lq_ (σ kR_w) (300 * a) (σ kR_limbs a).toNat
  | 0, h => by
    have : σ kR_limbs a = 0 := by omega
    rw [this]; rfl
  | n + 1, h => by
    by_cases q : σ kR_limbs a = n + 1
    · have e : (σ kR_limbs a).toNat = n + 1 := by omega
      rw [e, ← ll_lv]
      apply ll_cg
      intro i i0 i1
      unfold la_
      rw [if_pos (by omega)]
    · unfold ll_
      rw [ll_la h0 (n := n) (by omega)]
      unfold la_
      rw [if_neg (by omega), Int.zero_mul, Int.add_zero]
theorem v_limb {σ : SG} {a k : Int} (hσ : II σ) (a0 : 0 ≤ a) (a1 : a < 20) (k0 : 0 ≤ k) (k1 : k ≤ 300) : wp_ (fR_limb σ a k) (fun v => v = la_ σ a k) := by
  unfold fR_limb
  have hl := ii_kR_limbs hσ a
  rw [w32_of (x := a) (by omega) (by omega)]
  refine wp_bd (P := fun v => v = la_ σ a k) ?_ (fun v _ h => wp_some h)
  refine wp_rd a0 a1 ?_
  rw [w32_of (x := k) (by omega) (by omega), w32_of (x := σ kR_limbs a) (by omega) (by omega), w32_of (x := 300 * a + k) (by omega) (by omega)]
  refine wp_if (fun h => ?_) (fun h => ?_)
  · refine wp_rd (by omega) (by omega) ?_
    exact wp_some (by unfold la_; rw [if_pos h])
  · exact wp_some (by unfold la_; rw [if_neg h])
theorem la_bd {σ : SG} (hσ : II σ) (a k : Int) : 0 ≤ la_ σ a k ∧ la_ σ a k ≤ 4294967295 := by
  unfold la_
  have := ii_kR_w hσ (300 * a + k)
  split <;> omega
/-- sums of sizes -/
theorem v_addSizes {σ : SG} {t a b : Int} (hσ : II σ) (t0 : 0 ≤ t) (t1 : t < 20) (a0 : 0 ≤ a) (a1 : a < 20) (b0 : 0 ≤ b) (b1 : b < 20) (ha : σ kR_limbs a ≤ 299) (hb : σ kR_limbs b ≤ 299) : wp_ (fR_addSizes σ t a b) (fun τ => II τ ∧ FR [kR_limbs, kR_w] σ τ ∧ lq_ (τ kR_w) (300 * t) (τ kR_limbs t).toNat = lq_ (σ kR_w) (300 * a) (σ kR_limbs a).toNat + lq_ (σ kR_w) (300 * b) (σ kR_limbs b).toNat ∧ (τ kR_limbs t ≤ σ kR_limbs a + 1 ∨ τ kR_limbs t ≤ σ kR_limbs b + 1) ∧ RS t σ τ) := by
  unfold fR_addSizes
  have la := ii_kR_limbs hσ a
  have lb := ii_kR_limbs hσ b
  rw [w32_of (x := a) (by omega) (by omega), w32_of (x := b) (by omega) (by omega), w32_of (x := t) (by omega) (by omega)]
  refine wp_bd (P := fun m => σ kR_limbs a ≤ m ∧ σ kR_limbs b ≤ m ∧ (m = σ kR_limbs a ∨ m = σ kR_limbs b)) ?_ ?_
  · refine wp_rd a0 a1 (wp_rd b0 b1 ?_)
    rw [w32_of (x := σ kR_limbs a) (by omega) (by omega), w32_of (x := σ kR_limbs b) (by omega) (by omega)]
    refine wp_if (fun h => ?_) (fun h => ?_)
    · exact wp_rd a0 a1 (wp_some (by omega))
    · exact wp_rd b0 b1 (wp_some (by omega))
  rintro m - ⟨m1, m2, m3⟩
  rw [w32_of (x := m + 1) (by omega) (by omega)]
  refine wp_bd (P := fun x => II x.2.2 ∧ (∀ c i, ¬ (c = kR_w ∧ 300 * t ≤ i ∧ i < 300 * t + 300) → x.2.2 c i = σ c i) ∧ lq_ (x.2.2 kR_w) (300 * t) (m + 1).toNat = ll_ (la_ σ a) (m + 1).toNat + ll_ (la_ σ b) (m + 1).toNat) ?_ ?_
  · refine wp_whl (fun x => II x.2.2 ∧ 0 ≤ x.2.1 ∧ x.2.1 ≤ m + 1 ∧ 0 ≤ x.1 ∧ x.1 ≤ 1 ∧ (∀ c i, ¬ (c = kR_w ∧ 300 * t ≤ i ∧ i < 300 * t + x.2.1) → x.2.2 c i = σ c i) ∧ lq_ (x.2.2 kR_w) (300 * t) x.2.1.toNat + x.1 * 2 ^ (32 * x.2.1.toNat) = ll_ (la_ σ a) x.2.1.toNat + ll_ (la_ σ b) x.2.1.toNat ∧ (x.2.1 = m + 1 → x.1 = 0)) (fun x => (m + 1 - x.2.1).toNat) ⟨hσ, Int.le_refl 0, by show (0 : Int) ≤ m + 1; omega, Int.le_refl 0, by show (0 : Int) ≤ 1; decide, fun _ _ _ => rfl, rfl, fun h => rfl⟩ ?_
    rintro ⟨c, k, τ⟩ ⟨hτ, k0, k1, c0, c1, hf, hv, htp⟩
    dsimp only at hτ k0 k1 c0 c1 hf hv htp ⊢
    rw [w32_of (x := k) (by omega) (by omega)]
    refine wp_if (fun h => ?_) (fun h => ?_)
    · have eqa : la_ τ a k = la_ σ a k := by
        unfold la_
        rw [hf kR_limbs a (by intro q; exact absurd q.1 (by decide)), hf kR_w (300 * a + k) (by omega)]
      have eqb : la_ τ b k = la_ σ b k := by
        unfold la_
        rw [hf kR_limbs b (by intro q; exact absurd q.1 (by decide)), hf kR_w (300 * b + k) (by omega)]
      refine wp_bd (v_limb hτ a0 a1 k0 (by omega)) ?_
      rintro x - rfl
      refine wp_bd (v_limb hτ b0 b1 k0 (by omega)) ?_
      rintro y - rfl
      rw [eqa, eqb]
      have ba := la_bd hσ a k
      have bb := la_bd hσ b k
      obtain ⟨s1, s2, s3, s4, s5⟩ := split32 (x := c + (la_ σ a k + la_ σ b k)) (by omega) (by omega)
      rw [w32_of (x := 300 * t + k) (by omega) (by omega)]
      refine wp_waI hτ b_kR_w (by omega) (by omega) ⟨s2, s3⟩ (fun υ hυ e => ?_)
      have hcar : q_lus (c + (la_ σ a k + la_ σ b k)) 32 ≤ 1 := by omega
      have htop : k = m → q_lus (c + (la_ σ a k + la_ σ b k)) 32 = 0 := by
        intro q
        have z : la_ σ a k = 0 := by unfold la_; rw [if_neg (by omega)]
        have z2 : la_ σ b k = 0 := by unfold la_; rw [if_neg (by omega)]
        rw [z, z2] at s1 s2 s3 s4 s5 ⊢
        omega
      have nk : (k + 1).toNat = k.toNat + 1 := by omega
      have kk : ((k.toNat : Nat) : Int) = k := by omega
      refine wp_il ⟨⟨hυ, by show 0 ≤ k + 1; omega, by show k + 1 ≤ m + 1; omega, s4, hcar, ?_, ?_, ?_⟩, by show (m + 1 - (k + 1)).toNat < (m + 1 - k).toNat; omega⟩
      · intro c' i q
        dsimp only at q ⊢
        rw [e, sg_ne (by intro r; exact q ⟨r.1, by omega, by omega⟩)]
        exact hf c' i (by intro r; exact q ⟨r.1, by omega, by omega⟩)
      · dsimp only
        rw [nk]
        show lq_ (υ kR_w) (300 * t) k.toNat + υ kR_w (300 * t + k.toNat) * 2 ^ (32 * k.toNat) + _ = ll_ (la_ σ a) k.toNat + la_ σ a k.toNat * 2 ^ (32 * k.toNat) + (ll_ (la_ σ b) k.toNat + la_ σ b k.toNat * 2 ^ (32 * k.toNat))
        rw [p2_s, kk]
        have e1 : υ kR_w (300 * t + k) = q_lan (c + (la_ σ a k + la_ σ b k)) 4294967295 := by rw [e]; exact sg_at _ _ _ _
        have e2 : lq_ (υ kR_w) (300 * t) k.toNat = lq_ (τ kR_w) (300 * t) k.toNat := lq_cg (fun i i0 i1 => by rw [e, sg_ni (by omega)])
        rw [e1, e2]
        generalize (2 : Int) ^ (32 * k.toNat) = P at hv ⊢
        generalize q_lan (c + (la_ σ a k + la_ σ b k)) 4294967295 = lo at s1 ⊢
        generalize q_lus (c + (la_ σ a k + la_ σ b k)) 32 = up at s1 ⊢
        grind
      · intro q; exact htop (by dsimp only at q; omega)
    · have hk : k = m + 1 := by omega
      refine wp_ir ⟨hτ, fun c i q => hf c i (by intro r; exact q ⟨r.1, by omega, by omega⟩), ?_⟩
      dsimp only
      rw [htp hk, Int.zero_mul, Int.add_zero, hk] at hv
      exact hv
  · rintro ⟨c, k, τ⟩ - ⟨hτ, hf, hv⟩
    dsimp only at hτ hf hv ⊢
    refine wp_waI hτ b_kR_limbs t0 t1 (by omega) (fun υ hυ e => wp_some ⟨hυ, ?_, ?_, ?_, ?_⟩)
    · have f1 : FR [kR_limbs, kR_w] σ τ := by
        intro c' hc
        funext i
        exact hf c' i (fun q => hc (by rw [q.1]; exact List.mem_cons_of_mem _ List.mem_cons_self))
      exact FR_tr (ms := [kR_limbs, kR_w]) f1 (FR_sg e) (by decide) (by decide)
    · have el : υ kR_limbs t = m + 1 := by rw [e]; exact sg_at _ _ _ _
      have ew : υ kR_w = τ kR_w := by rw [e]; funext i; exact sg_nc (by decide)
      rw [el, ew, hv, ll_la (by omega) (by omega), ll_la (by omega) (by omega)]
    · have el : υ kR_limbs t = m + 1 := by rw [e]; exact sg_at _ _ _ _
      omega
    · intro q q0 q1 hq
      refine ⟨?_, ?_, fun i i0 i1 => ?_⟩
      · rw [e, sg_ni hq]; exact hf _ _ (by intro r; exact absurd r.1 (by decide))
      · rw [e, sg_nc (by decide)]; exact hf _ _ (by intro r; exact absurd r.1 (by decide))
      · rw [e, sg_nc (by decide)]; exact hf _ _ (by omega)
end LIN
