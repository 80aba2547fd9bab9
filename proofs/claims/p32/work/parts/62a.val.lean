section CVL
theorem w32_md (x : Int) : w32 x % 4294967296 = x % 4294967296 := by
  rw [w32_bm, Int.bmod_def]; split <;> omega
theorem w32_z (x : Int) : w32 x = 0 ↔ x % 4294967296 = 0 := by
  rw [w32_bm, Int.bmod_def]; split <;> omega
/-- the limbs of a register of the class's signs, as they count -/
def qw_ (σ : SG) (r : Int) : Int → Int := fun i => σ ((256 + r.toNat) * 256) i % 4294967296
def qa_ (σ : SG) (r k : Int) : Int := if k < σ kI_used r then qw_ σ r k else 0
/-- the size of a register -/
def qz_ (σ : SG) (r : Int) : Int := lq_ (qw_ σ r) 0 (σ kI_used r).toNat
def CNR (σ : SG) (r : Int) : Prop := (σ kI_used r = 0 → σ kI_sign r = 0) ∧ (0 < σ kI_used r → σ kI_sign r ≠ 0 ∧ qw_ σ r (σ kI_used r - 1) ≠ 0)
/-- register r holds the number v in at most L limbs -/
def CGr (σ : SG) (r v L : Int) : Prop := CNR σ r ∧ σ kI_sign r * qz_ σ r = v ∧ σ kI_used r ≤ L
/-- register t alone changes -/
def CFr (t : Int) (σ τ : SG) : Prop := ∀ c i, ¬ (c = (256 + t.toNat) * 256) → ¬ (c = kI_used ∧ i = t) → ¬ (c = kI_sign ∧ i = t) → τ c i = σ c i
theorem CF_refl (t : Int) (σ : SG) : CFr t σ σ := fun _ _ _ _ _ => rfl
theorem CF_tr {t : Int} {σ τ υ : SG} (a : CFr t σ τ) (b : CFr t τ υ) : CFr t σ υ := fun c i h1 h2 h3 => (b c i h1 h2 h3).trans (a c i h1 h2 h3)
theorem nU {r : Int} (h1 : r < 16) : ¬ (kI_used = (256 + r.toNat) * 256) := by unfold kI_used; omega
theorem nS {r : Int} (h1 : r < 16) : ¬ (kI_sign = (256 + r.toNat) * 256) := by unfold kI_sign; omega
theorem nW {q r : Int} (q0 : 0 ≤ q) (r0 : 0 ≤ r) (h : q ≠ r) : ¬ ((256 + q.toNat) * 256 = (256 + r.toNat) * 256) := by omega
theorem qw_bd (σ : SG) (r i : Int) : 0 ≤ qw_ σ r i ∧ qw_ σ r i ≤ 4294967295 := by unfold qw_; omega
theorem qa_bd (σ : SG) (r i : Int) : 0 ≤ qa_ σ r i ∧ qa_ σ r i ≤ 4294967295 := by
  unfold qa_
  have := qw_bd σ r i
  split <;> omega
theorem qz_nn (σ : SG) (r : Int) : 0 ≤ qz_ σ r := lq_nn (fun i _ _ => (qw_bd σ r _).1)
theorem qw_cg {σ τ : SG} {r : Int} (h : ∀ i, τ ((256 + r.toNat) * 256) i = σ ((256 + r.toNat) * 256) i) : qw_ τ r = qw_ σ r := by
  funext i; unfold qw_; rw [h]
theorem qz_cg {σ τ : SG} {r : Int} (h : ∀ i, τ ((256 + r.toNat) * 256) i = σ ((256 + r.toNat) * 256) i) (u : τ kI_used r = σ kI_used r) : qz_ τ r = qz_ σ r := by
  show lq_ (qw_ τ r) 0 (τ kI_used r).toNat = lq_ (qw_ σ r) 0 (σ kI_used r).toNat
  rw [qw_cg h, u]
theorem CF_q {t q : Int} {σ τ : SG} (f : CFr t σ τ) (t0 : 0 ≤ t) (t1 : t < 16) (q0 : 0 ≤ q) (q1 : q < 16) (h : q ≠ t) : τ kI_used q = σ kI_used q ∧ τ kI_sign q = σ kI_sign q ∧ ∀ i, τ ((256 + q.toNat) * 256) i = σ ((256 + q.toNat) * 256) i :=
  ⟨f _ _ (nU t1) (fun z => h z.2) (fun z => h z.2), f _ _ (nS t1) (fun z => h z.2) (fun z => h z.2), fun i => f _ _ (nW q0 t0 h) (fun z => nU q1 z.1.symm) (fun z => nS q1 z.1.symm)⟩
theorem CN_c {q : Int} {σ τ : SG} (u : τ kI_used q = σ kI_used q) (s : τ kI_sign q = σ kI_sign q) (w : ∀ i, τ ((256 + q.toNat) * 256) i = σ ((256 + q.toNat) * 256) i) (h : CNR σ q) : CNR τ q := by
  unfold CNR
  rw [u, s, qw_cg w]; exact h
theorem CG_f {t q v L : Int} {σ τ : SG} (f : CFr t σ τ) (t0 : 0 ≤ t) (t1 : t < 16) (q0 : 0 ≤ q) (q1 : q < 16) (h : q ≠ t) (g : CGr σ q v L) : CGr τ q v L := by
  obtain ⟨a, b, c⟩ := CF_q f t0 t1 q0 q1 h
  exact ⟨CN_c a b c g.1, by rw [b, qz_cg c a]; exact g.2.1, by rw [a]; exact g.2.2⟩
theorem lq_qa {σ : SG} {a : Int} (h0 : 0 ≤ σ kI_used a) : ∀ {n : Nat}, σ kI_used a ≤ n → lq_ (qa_ σ a) 0 n = qz_ σ a
  | 0, h => by
    have : σ kI_used a = 0 := by omega
    unfold qz_; rw [this]; rfl
  | n + 1, h => by
    by_cases q : σ kI_used a = n + 1
    · have e : (σ kI_used a).toNat = n + 1 := by omega
      unfold qz_; rw [e]
      exact lq_cg (fun i i0 i1 => by unfold qa_; rw [if_pos (by omega)])
    · rw [lq_s, lq_qa h0 (n := n) (by omega)]
      unfold qa_; rw [if_neg (by omega), Int.zero_mul, Int.add_zero]
theorem CN_z {σ : SG} {r : Int} (hσ : II σ) (h : CNR σ r) (hs : σ kI_sign r = 0) : qz_ σ r = 0 := by
  have hl := ii_kI_used hσ r
  by_cases e : σ kI_used r = 0
  · unfold qz_; rw [e]; rfl
  · exact absurd hs (h.2 (by omega)).1
theorem CN_p {σ : SG} {r : Int} (hσ : II σ) (h : CNR σ r) (hs : σ kI_sign r ≠ 0) : 0 < qz_ σ r := by
  have hl := ii_kI_used hσ r
  by_cases e : σ kI_used r = 0
  · exact absurd (h.1 e) hs
  · obtain ⟨n, hn⟩ : ∃ n : Nat, (σ kI_used r).toNat = n + 1 := ⟨(σ kI_used r).toNat - 1, by omega⟩
    unfold qz_
    rw [hn]
    refine lq_pos (fun i _ _ => (qw_bd σ r _).1) ?_
    rw [Int.zero_add, show (n : Int) = σ kI_used r - 1 by omega]
    exact (h.2 (by omega)).2
/-- the sign of a register is that of its number -/
theorem CG_sg {σ : SG} {r v L : Int} (hσ : II σ) (g : CGr σ r v L) : σ kI_sign r = Int.sign v := by
  obtain ⟨h, rfl, -⟩ := g
  have hs := ii_kI_sign hσ r
  rcases (show σ kI_sign r = -1 ∨ σ kI_sign r = 0 ∨ σ kI_sign r = 1 by omega) with e | e | e
  · have := CN_p hσ h (by omega)
    rw [e, Int.sign_eq_neg_one_of_neg (by omega)]
  · rw [e, Int.zero_mul]; rfl
  · have := CN_p hσ h (by omega)
    rw [e, Int.one_mul, Int.sign_eq_one_of_pos this]
theorem v_I_limbAt {σ : SG} {r i : Int} (hσ : II σ) (r0 : 0 ≤ r) (r1 : r < 16) (i0 : 0 ≤ i) (i1 : i ≤ 280) : wp_ (fI_limbAt σ r i) (fun v => v = qa_ σ r i) := by
  unfold fI_limbAt
  have hu := ii_kI_used hσ r
  rw [w32_of (x := r) (by omega) (by omega), w32_of (x := i) (by omega) (by omega)]
  refine wp_bd (P := fun v => v = qa_ σ r i) ?_ (fun v _ h => wp_some h)
  refine wp_rd r0 r1 ?_
  rw [w32_of (x := σ kI_used r) (by omega) (by omega)]
  refine wp_if (fun h => ?_) (fun h => ?_)
  · refine wp_ck ⟨r0, r1⟩ (wp_rd i0 (by omega) (wp_some ?_))
    unfold qa_ qw_
    rw [if_pos h, lan32]; exact w32_md _
  · exact wp_some (by unfold qa_; rw [if_neg h])
theorem v_I_addLimbs {σ : SG} {t a b f : Int} (hσ : II σ) (t0 : 0 ≤ t) (t1 : t < 16) (a0 : 0 ≤ a) (a1 : a < 16) (b0 : 0 ≤ b) (b1 : b < 16) (ta : a ≠ t) (tb : b ≠ t) (hf : f = 1 ∨ f = -1) (ha : σ kI_used a ≤ 279) (hb : σ kI_used b ≤ 279) (hz : 0 ≤ qz_ σ a + f * qz_ σ b) : wp_ (fI_addLimbs σ t a b f) (fun τ => qz_ τ t = qz_ σ a + f * qz_ σ b ∧ (τ kI_used t = σ kI_used a + 1 ∨ τ kI_used t = σ kI_used b + 1) ∧ (∀ c i, ¬ (c = (256 + t.toNat) * 256) → ¬ (c = kI_used ∧ i = t) → τ c i = σ c i)) := by
  unfold fI_addLimbs
  have la := ii_kI_used hσ a
  have lb := ii_kI_used hσ b
  rw [w32_of (x := a) (by omega) (by omega), w32_of (x := b) (by omega) (by omega), w32_of (x := t) (by omega) (by omega), w32_of (x := f) (by omega) (by omega)]
  refine wp_rd a0 a1 (wp_rd b0 b1 ?_)
  obtain ⟨m, hm, m0, m1, ma, mb, mm⟩ : ∃ m : Int, q_mni (q_mxi (σ kI_used a) (σ kI_used b) + 1) 280 = m ∧ 1 ≤ m ∧ m ≤ 280 ∧ σ kI_used a + 1 ≤ m ∧ σ kI_used b + 1 ≤ m ∧ (m = σ kI_used a + 1 ∨ m = σ kI_used b + 1) := by
    have h1 := q_mxi_bd (σ kI_used a) (σ kI_used b)
    have h2 := q_mni_bd (q_mxi (σ kI_used a) (σ kI_used b) + 1) 280
    rw [w32_of (x := σ kI_used a) (by omega) (by omega), w32_of (x := σ kI_used b) (by omega) (by omega)] at h1
    rw [w32_of (x := q_mxi (σ kI_used a) (σ kI_used b) + 1) (by omega) (by omega), w32_of (x := 280) (by decide) (by decide)] at h2
    exact ⟨_, rfl, by omega, by omega, by omega, by omega, by omega⟩
  rw [hm, w32_of (x := m) (by omega) (by omega)]
  obtain ⟨N, hN⟩ : ∃ N : Nat, m.toNat = N + 1 := ⟨m.toNat - 1, by omega⟩
  refine wp_bd (P := fun x => II x.2.2 ∧ (∀ c i, ¬ (c = (256 + t.toNat) * 256) → x.2.2 c i = σ c i) ∧ lq_ (qw_ x.2.2 t) 0 m.toNat = qz_ σ a + f * qz_ σ b) ?_ ?_
  · refine wp_whl (fun x => II x.2.2 ∧ 0 ≤ x.2.1 ∧ x.2.1 ≤ m ∧ -1 ≤ x.1 ∧ x.1 ≤ 1 ∧ (∀ c i, ¬ (c = (256 + t.toNat) * 256) → x.2.2 c i = σ c i) ∧ lq_ (qw_ x.2.2 t) 0 x.2.1.toNat + x.1 * 2 ^ (32 * x.2.1.toNat) = lq_ (qa_ σ a) 0 x.2.1.toNat + f * lq_ (qa_ σ b) 0 x.2.1.toNat) (fun x => (m - x.2.1).toNat) ⟨hσ, Int.le_refl 0, by show (0 : Int) ≤ m; omega, by show (-1 : Int) ≤ 0; decide, by show (0 : Int) ≤ 1; decide, fun _ _ _ => rfl, by show (0 : Int) + 0 * 2 ^ (32 * 0) = 0 + f * 0; rw [Int.zero_mul, Int.mul_zero]⟩ ?_
    rintro ⟨c, k, τ⟩ ⟨hτ, k0, k1, c0, c1, hfr, hv⟩
    dsimp only at hτ k0 k1 c0 c1 hfr hv ⊢
    rw [w32_of (x := k) (by omega) (by omega)]
    refine wp_if (fun h => ?_) (fun h => ?_)
    · have eqa : qa_ τ a k = qa_ σ a k := by
        unfold qa_ qw_
        rw [hfr kI_used a (nU t1), hfr ((256 + a.toNat) * 256) k (nW a0 t0 ta)]
      have eqb : qa_ τ b k = qa_ σ b k := by
        unfold qa_ qw_
        rw [hfr kI_used b (nU t1), hfr ((256 + b.toNat) * 256) k (nW b0 t0 tb)]
      refine wp_bd (v_I_limbAt hτ a0 a1 k0 (by omega)) ?_
      rintro x - rfl
      refine wp_bd (v_I_limbAt hτ b0 b1 k0 (by omega)) ?_
      rintro y - rfl
      rw [eqa, eqb]
      have ba := qa_bd σ a k
      have bb := qa_bd σ b k
      have hfb : -4294967295 ≤ f * qa_ σ b k ∧ f * qa_ σ b k ≤ 4294967295 := by rcases hf with rfl | rfl <;> omega
      generalize hs : qa_ σ a k + f * qa_ σ b k + c = s
      have hq : q_lsr s 32 = s / 4294967296 := lsr_k (k := 32) (by omega) (by omega) (by decide)
      refine wp_ck ⟨t0, t1⟩ ?_
      refine wp_waN hτ (bI_limb (by omega)) k0 (by omega) (fun υ hυ e => ?_)
      have nk : (k + 1).toNat = k.toNat + 1 := by omega
      have kk : ((k.toNat : Nat) : Int) = k := by omega
      refine wp_il ⟨⟨hυ, by show 0 ≤ k + 1; omega, by show k + 1 ≤ m; omega, by show -1 ≤ q_lsr s 32; omega, by show q_lsr s 32 ≤ 1; omega, ?_, ?_⟩, by show (m - (k + 1)).toNat < (m - k).toNat; omega⟩
      · intro c' i q
        dsimp only
        rw [e, sg_nc q]
        exact hfr c' i q
      · dsimp only
        have e1 : qw_ υ t k = s % 4294967296 := by unfold qw_; rw [e, sg_at]
        have e2 : lq_ (qw_ υ t) 0 k.toNat = lq_ (qw_ τ t) 0 k.toNat := lq_cg (fun i i0 i1 => by unfold qw_; rw [e, sg_ni (by omega)])
        rw [nk]
        show lq_ (qw_ υ t) 0 k.toNat + qw_ υ t (0 + (k.toNat : Int)) * 2 ^ (32 * k.toNat) + _ = lq_ (qa_ σ a) 0 k.toNat + qa_ σ a (0 + (k.toNat : Int)) * 2 ^ (32 * k.toNat) + f * (lq_ (qa_ σ b) 0 k.toNat + qa_ σ b (0 + (k.toNat : Int)) * 2 ^ (32 * k.toNat))
        rw [p2_s, Int.zero_add, kk, e1, e2, hq]
        have hd : s % 4294967296 + s / 4294967296 * 4294967296 = s := by omega
        generalize (2 : Int) ^ (32 * k.toNat) = P at hv ⊢
        generalize s % 4294967296 = lo at hd ⊢
        generalize s / 4294967296 = up at hd ⊢
        generalize lq_ (qw_ τ t) 0 k.toNat = X1 at hv ⊢
        generalize lq_ (qa_ σ a) 0 k.toNat = X2 at hv ⊢
        generalize lq_ (qa_ σ b) 0 k.toNat = X3 at hv ⊢
        generalize qa_ σ a k = Y1 at hs ⊢
        generalize qa_ σ b k = Y2 at hs ⊢
        clear ba bb hfb eqa eqb e e1 e2 hq hfr hτ hυ
        grind
    · have hk : k = m := by omega
      refine wp_ir ⟨hτ, hfr, ?_⟩
      dsimp only
      rw [hk, hN] at hv
      have A1 := lq_qa (σ := σ) (a := a) la.1 (n := N) (by omega)
      have A2 := lq_qa (σ := σ) (a := a) la.1 (n := N + 1) (by omega)
      have B1 := lq_qa (σ := σ) (a := b) lb.1 (n := N) (by omega)
      have B2 := lq_qa (σ := σ) (a := b) lb.1 (n := N + 1) (by omega)
      have A3 := lq_lt (w := qa_ σ a) (base := 0) (n := N) (fun i _ _ => qa_bd σ a _)
      have B3 := lq_lt (w := qa_ σ b) (base := 0) (n := N) (fun i _ _ => qa_bd σ b _)
      have L0 := lq_nn (w := qw_ τ t) (base := 0) (n := N + 1) (fun i _ _ => (qw_bd τ t _).1)
      have L1 := lq_lt (w := qw_ τ t) (base := 0) (n := N + 1) (fun i _ _ => qw_bd τ t _)
      have A0 := qz_nn σ a
      have B0 := qz_nn σ b
      rw [A1] at A3
      rw [B1] at B3
      rw [A2, B2, p2_s] at hv
      rw [p2_s] at L1
      rw [hN]
      generalize (2 : Int) ^ (32 * N) = P at hv L1 A3 B3
      generalize lq_ (qw_ τ t) 0 (N + 1) = X at hv L0 L1 ⊢
      generalize qz_ σ a = A at hz hv A3 A0 ⊢
      generalize qz_ σ b = B at hz hv B3 B0 ⊢
      have hc : c = 0 := by
        rcases (show c = -1 ∨ c = 0 ∨ c = 1 by omega) with rfl | rfl | rfl
        · rcases hf with rfl | rfl <;> omega
        · rfl
        · rcases hf with rfl | rfl <;> omega
      rw [hc, Int.zero_mul, Int.add_zero] at hv
      exact hv
  · rintro ⟨c, k, τ⟩ - ⟨hτ, hfr, hv⟩
    dsimp only at hτ hfr hv ⊢
    refine wp_waI hτ b_kI_used t0 t1 (by omega) (fun υ hυ e => wp_some ⟨?_, ?_, ?_⟩)
    · have u : υ kI_used t = m := by rw [e, sg_at]
      have w : qw_ υ t = qw_ τ t := qw_cg (fun i => by rw [e, sg_nc (fun z => nU t1 z.symm)])
      show lq_ (qw_ υ t) 0 (υ kI_used t).toNat = _
      rw [u, w]; exact hv
    · rw [e, sg_at]; exact mm
    · intro c i q1 q2
      rw [e, sg_ne q2]; exact hfr c i q1
theorem v_I_compareLimbs {σ : SG} {a b : Int} (hσ : II σ) (a0 : 0 ≤ a) (a1 : a < 16) (b0 : 0 ≤ b) (b1 : b < 16) : wp_ (fI_compareLimbs σ a b) (fun x => -1 ≤ x ∧ x ≤ 1 ∧ (0 ≤ x → qz_ σ b ≤ qz_ σ a) ∧ (x < 0 → qz_ σ a ≤ qz_ σ b)) := by
  unfold fI_compareLimbs
  have la := ii_kI_used hσ a
  have lb := ii_kI_used hσ b
  rw [w32_of (x := a) (by omega) (by omega), w32_of (x := b) (by omega) (by omega)]
  refine wp_rd a0 a1 (wp_rd b0 b1 ?_)
  obtain ⟨m, hm, m0, m1, ma, mb⟩ : ∃ m : Int, q_mxi (σ kI_used a) (σ kI_used b) = m ∧ 0 ≤ m ∧ m ≤ 280 ∧ σ kI_used a ≤ m ∧ σ kI_used b ≤ m := by
    have h1 := q_mxi_bd (σ kI_used a) (σ kI_used b)
    rw [w32_of (x := σ kI_used a) (by omega) (by omega), w32_of (x := σ kI_used b) (by omega) (by omega)] at h1
    exact ⟨_, rfl, by omega, by omega, by omega, by omega⟩
  rw [hm]
  have A := lq_qa (σ := σ) (a := a) la.1 (n := m.toNat) (by omega)
  have B := lq_qa (σ := σ) (a := b) lb.1 (n := m.toNat) (by omega)
  refine wp_bx (P := fun _ => qz_ σ a = qz_ σ b) ?_ ?_
  · refine wp_whl (fun i => -1 ≤ i ∧ i < m ∧ lq_ (qa_ σ a) 0 (i + 1).toNat - qz_ σ a = lq_ (qa_ σ b) 0 (i + 1).toNat - qz_ σ b) (fun i => (i + 1).toNat) ⟨by omega, by omega, by rw [show m - 1 + 1 = m by omega, A, B]; omega⟩ ?_
    rintro i ⟨i0, i1, hi⟩
    try dsimp only
    rw [w32_of (x := i) (by omega) (by omega)]
    refine wp_if (fun h => ?_) (fun h => ?_)
    · obtain ⟨n, hn⟩ : ∃ n : Nat, i = n := ⟨i.toNat, by omega⟩
      subst hn
      refine wp_bd (v_I_limbAt hσ a0 a1 h (by omega)) ?_
      rintro x - rfl
      refine wp_bd (v_I_limbAt hσ b0 b1 h (by omega)) ?_
      rintro y - rfl
      have ba := qa_bd σ a n
      have bb := qa_bd σ b n
      rw [w64_of (x := qa_ σ a n) (by omega) (by omega), w64_of (x := qa_ σ b n) (by omega) (by omega)]
      have e1 : ((n : Int) + 1).toNat = n + 1 := by omega
      rw [e1, lq_s, lq_s, Int.zero_add] at hi
      have A0 := lq_nn (w := qa_ σ a) (base := 0) (n := n) (fun i _ _ => (qa_bd σ a _).1)
      have A1 := lq_lt (w := qa_ σ a) (base := 0) (n := n) (fun i _ _ => qa_bd σ a _)
      have B0 := lq_nn (w := qa_ σ b) (base := 0) (n := n) (fun i _ _ => (qa_bd σ b _).1)
      have B1 := lq_lt (w := qa_ σ b) (base := 0) (n := n) (fun i _ _ => qa_bd σ b _)
      have pp := p2_pos (32 * n)
      refine wp_if (fun g => ?_) (fun g => ?_)
      · refine wp_bd (P := fun x => -1 ≤ x ∧ x ≤ 1 ∧ (0 ≤ x → qz_ σ b ≤ qz_ σ a) ∧ (x < 0 → qz_ σ a ≤ qz_ σ b)) ?_ (fun x _ hx => wp_some (x_inr (x_inr hx)))
        refine wp_bd (v_I_limbAt hσ a0 a1 h (by omega)) ?_
        rintro x - rfl
        refine wp_bd (v_I_limbAt hσ b0 b1 h (by omega)) ?_
        rintro y - rfl
        rw [w64_of (x := qa_ σ a n) (by omega) (by omega), w64_of (x := qa_ σ b n) (by omega) (by omega)]
        refine wp_if (fun g2 => wp_some ⟨by decide, by decide, fun _ => ?_, fun q => absurd q (by decide)⟩) (fun g2 => wp_some ⟨by decide, by decide, fun q => absurd q (by decide), fun _ => ?_⟩)
        · have := Int.mul_le_mul_of_nonneg_right (show qa_ σ b n + 1 ≤ qa_ σ a n by omega) (Int.le_of_lt pp)
          rw [Int.add_mul, Int.one_mul] at this
          omega
        · have := Int.mul_le_mul_of_nonneg_right (show qa_ σ a n + 1 ≤ qa_ σ b n by omega) (Int.le_of_lt pp)
          rw [Int.add_mul, Int.one_mul] at this
          omega
      · have g' : qa_ σ a n = qa_ σ b n := Decidable.not_not.mp g
        refine wp_some (x_inl ⟨⟨by omega, by omega, ?_⟩, by show ((n : Int) + -1 + 1).toNat < ((n : Int) + 1).toNat; omega⟩)
        rw [show ((n : Int) + -1 + 1).toNat = n by omega]
        rw [g'] at hi
        omega
    · refine wp_some (x_inr (x_inl ?_))
      rw [show (i + 1).toNat = 0 by omega] at hi
      have z1 : lq_ (qa_ σ a) 0 0 = 0 := rfl
      have z2 : lq_ (qa_ σ b) 0 0 = 0 := rfl
      rw [z1, z2] at hi
      omega
  · intro i h
    exact wp_some ⟨by decide, by decide, fun _ => by omega, fun q => absurd q (by decide)⟩
theorem v_I_trim {σ : SG} {t : Int} (hσ : II σ) (t0 : 0 ≤ t) (t1 : t < 16) (hz : σ kI_sign t = 0 → qz_ σ t = 0) : wp_ (fI_trim σ t) (fun τ => CNR τ t ∧ τ kI_sign t * qz_ τ t = σ kI_sign t * qz_ σ t ∧ τ kI_used t ≤ σ kI_used t ∧ (∀ c i, ¬ (c = kI_used ∧ i = t) → ¬ (c = kI_sign ∧ i = t) → τ c i = σ c i)) := by
  unfold fI_trim
  have lt := ii_kI_used hσ t
  rw [w32_of (x := t) (by omega) (by omega)]
  refine wp_bd (P := fun τ => II τ ∧ (∀ c i, ¬ (c = kI_used ∧ i = t) → τ c i = σ c i) ∧ τ kI_used t ≤ σ kI_used t ∧ lq_ (qw_ σ t) 0 (τ kI_used t).toNat = qz_ σ t ∧ (0 < τ kI_used t → qw_ σ t (τ kI_used t - 1) ≠ 0)) ?_ ?_
  · refine wp_whl (fun τ => II τ ∧ (∀ c i, ¬ (c = kI_used ∧ i = t) → τ c i = σ c i) ∧ τ kI_used t ≤ σ kI_used t ∧ lq_ (qw_ σ t) 0 (τ kI_used t).toNat = qz_ σ t) (fun τ => (τ kI_used t).toNat) ⟨hσ, fun _ _ _ => rfl, Int.le_refl _, rfl⟩ ?_
    rintro τ ⟨hτ, hf, hle, hv⟩
    have hl := ii_kI_used hτ t
    refine wp_rd t0 t1 ?_
    rw [w32_of (x := τ kI_used t) (by omega) (by omega)]
    refine wp_if (fun h => ?_) (fun h => ?_)
    · refine wp_ck ⟨t0, t1⟩ (wp_rd t0 t1 ?_)
      rw [w32_of (x := τ kI_used t - 1) (by omega) (by omega)]
      refine wp_rd (by omega) (by omega) ?_
      have hw : τ ((256 + t.toNat) * 256) (τ kI_used t - 1) = σ ((256 + t.toNat) * 256) (τ kI_used t - 1) := hf _ _ (fun z => nU t1 z.1.symm)
      rw [hw]
      refine wp_if (fun g => ?_) (fun g => ?_)
      · refine wp_rd t0 t1 ?_
        refine wp_waI hτ b_kI_used t0 t1 (by omega) (fun υ hυ e => ?_)
        have el : υ kI_used t = τ kI_used t - 1 := by rw [e, sg_at]
        refine wp_inl ⟨hυ, ?_, by omega, ?_⟩ (by show (υ kI_used t).toNat < (τ kI_used t).toNat; omega)
        · intro c i q
          rw [e, sg_ne q]; exact hf c i q
        · rw [el, ← hv]
          obtain ⟨n, hn⟩ : ∃ n : Nat, τ kI_used t = n + 1 := ⟨(τ kI_used t).toNat - 1, by omega⟩
          have gz : qw_ σ t n = 0 := by
            have g2 := (w32_z _).mp g
            rw [hn, show (n : Int) + 1 - 1 = n by omega] at g2
            exact g2
          rw [hn, show ((n : Int) + 1 - 1).toNat = n by omega, show ((n : Int) + 1).toNat = n + 1 by omega, lq_s, Int.zero_add, gz, Int.zero_mul, Int.add_zero]
      · exact wp_inr ⟨hτ, hf, hle, hv, fun _ => fun z => g ((w32_z _).mpr z)⟩
    · exact wp_inr ⟨hτ, hf, hle, hv, fun q => absurd q h⟩
  · rintro τ - ⟨hτ, hf, hle, hv, ht⟩
    have hl := ii_kI_used hτ t
    have hsg : τ kI_sign t = σ kI_sign t := hf _ _ (fun q => absurd q.1 (by decide))
    have hw : qw_ τ t = qw_ σ t := qw_cg (fun i => hf _ _ (fun z => nU t1 z.1.symm))
    have hq : qz_ τ t = qz_ σ t := by
      show lq_ (qw_ τ t) 0 _ = _
      rw [hw]; exact hv
    refine wp_bd (P := fun υ => CNR υ t ∧ υ kI_sign t * qz_ υ t = σ kI_sign t * qz_ σ t ∧ υ kI_used t ≤ σ kI_used t ∧ (∀ c i, ¬ (c = kI_used ∧ i = t) → ¬ (c = kI_sign ∧ i = t) → υ c i = σ c i)) ?_ (fun υ _ h => wp_some h)
    refine wp_rd t0 t1 ?_
    rw [w32_of (x := τ kI_used t) (by omega) (by omega)]
    refine wp_if (fun h => ?_) (fun h => ?_)
    · refine wp_waI hτ b_kI_sign t0 t1 (by decide) (fun υ hυ e => ?_)
      have z0 : qz_ σ t = 0 := by rw [← hv, h]; rfl
      have s0 : υ kI_sign t = 0 := by rw [e, sg_at]
      have u0 : υ kI_used t = 0 := by rw [e, sg_nc (by decide)]; exact h
      refine wp_some ⟨⟨fun _ => s0, fun q => absurd q (by omega)⟩, by rw [s0, z0, Int.zero_mul, Int.mul_zero], by omega, fun c i q1 q2 => by rw [e, sg_ne q2]; exact hf c i q1⟩
    · refine wp_some ⟨⟨fun q => absurd q h, fun q => ⟨fun s0 => ?_, by rw [hw]; exact ht q⟩⟩, by rw [hsg, hq], hle, fun c i q1 _ => hf c i q1⟩
      rw [hsg] at s0
      have z0 := hz s0
      rw [← hv] at z0
      obtain ⟨n, hn⟩ : ∃ n : Nat, (τ kI_used t).toNat = n + 1 := ⟨(τ kI_used t).toNat - 1, by omega⟩
      have hp : 0 < lq_ (qw_ σ t) 0 (n + 1) := by
        refine lq_pos (fun i _ _ => (qw_bd σ t _).1) ?_
        rw [Int.zero_add, show (n : Int) = τ kI_used t - 1 by omega]
        exact ht q
      rw [hn] at z0
      omega
end CVL
