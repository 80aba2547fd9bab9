section INVK
/-- the points of the signs, on both sides, are as they were -/
def KP4 (σ τ : SG) : Prop := τ kI_x = σ kI_x ∧ τ kI_y = σ kI_y ∧ τ kR_signX = σ kR_signX ∧ τ kR_signY = σ kR_signY
def INK (ρ σ : SG) : Prop := II σ ∧ SHs σ ∧ SHA σ ∧ UNt σ ∧ KP4 ρ σ
def Rck : List Nat := [kR_plan, kR_planMany, kR_pointMany, kR_unit, kI_x, kI_y, kR_signX, kR_signY]
theorem INK_i {σ : SG} (h : INV σ) : INK σ σ := ⟨h.1, h.2.1, h.2.2.1, h.2.2.2, rfl, rfl, rfl, rfl⟩
theorem INK_v {ρ σ : SG} (h : INK ρ σ) : INV σ := ⟨h.1, h.2.1, h.2.2.1, h.2.2.2.1⟩
theorem INK_m {ρ σ τ : SG} (h : INK ρ σ) (v : INV τ) (e : ∀ c, [kI_x, kI_y, kR_signX, kR_signY].contains c = true → τ c = σ c) : INK ρ τ :=
  ⟨v.1, v.2.1, v.2.2.1, v.2.2.2, (e _ (by decide)).trans h.2.2.2.2.1, (e _ (by decide)).trans h.2.2.2.2.2.1, (e _ (by decide)).trans h.2.2.2.2.2.2.1, (e _ (by decide)).trans h.2.2.2.2.2.2.2⟩
theorem dj_sub {ms rs ts : List Nat} (h : dj ms rs = true) (k : (ts.all fun c => rs.contains c) = true) {c : Nat} (hc : ts.contains c = true) : ¬ c ∈ ms := by
  intro q
  have h1 := List.all_eq_true.mp k c (List.contains_iff_mem.mp hc)
  have h2 := dj_c h (c := c) h1
  rw [List.contains_iff_mem.mpr q] at h2; cases h2
theorem INK_Q {ms ss : List Nat} {ρ σ τ : SG} (h : INK ρ σ) (hI : II τ) (f : FC ms ss σ τ) (hd : dj ms Rck = true) (hA : SHA τ) : INK ρ τ := by
  have e : ∀ c, Rck.contains c = true → 42496 ≤ c → τ c = σ c := fun c hc hl => f.1 c (Or.inr hl) (fun q => by have := dj_c hd (c := c) hc; rw [List.contains_iff_mem.mpr q] at this; cases this)
  refine INK_m h (INV_c (INK_v h) hI (e kR_plan (by decide) (by decide)) (e kR_planMany (by decide) (by decide)) (e kR_pointMany (by decide) (by decide)) (e kR_unit (by decide) (by decide)) hA) ?_
  intro c hc
  rcases (show c = kI_x ∨ c = kI_y ∨ c = kR_signX ∨ c = kR_signY by have := List.contains_iff_mem.mp hc; simpa using this) with rfl | rfl | rfl | rfl <;> exact e _ (by decide) (by decide)
theorem INK_Q0 {ms : List Nat} {ρ σ τ : SG} (h : INK ρ σ) (hI : II τ) (f : FC ms [] σ τ) (hd : dj ms Rck = true) : INK ρ τ := INK_Q h hI f hd (SHA_f f h.2.2.1)
theorem INK_R {ms : List Nat} {ρ σ τ : SG} (h : INK ρ σ) (hI : II τ) (f : FR ms σ τ) (hm : (ms.all fun c => decide (c < 8704 ∨ 42496 ≤ c)) = true) (hu : dj ms [kR_unit, kI_x, kI_y, kR_signX, kR_signY] = true) (hS : SHs τ) : INK ρ τ :=
  INK_m h ⟨hI, hS, SHA_f (FC_of f hm) h.2.2.1, UNt_f f (dj_le hu (by decide)) h.2.2.2.1⟩ (fun c hc => f c (dj_sub hu (ts := [kI_x, kI_y, kR_signX, kR_signY]) (by decide) hc))
theorem INK_lo {ρ σ τ : SG} {i v : Int} (h : INK ρ σ) (hI : II τ) (e : τ = sg σ kLo i v) : INK ρ τ := INK_Q0 h hI (FC_sg e (by decide)) (by decide)

theorem jL_feed {ρ σ : SG} {p0_0 p1_0 p2_0 p3_0 p4_0 : Int} (h : INK ρ σ) (qp0_0 : (-2147483648) ≤ p0_0 ∧ p0_0 ≤ 2147483647) (qp1_0 : (-2147483648) ≤ p1_0 ∧ p1_0 ≤ 2147483647) (qp2_0 : (-2147483648) ≤ p2_0 ∧ p2_0 ≤ 2147483647) (qp3_0 : (-2147483648) ≤ p3_0 ∧ p3_0 ≤ 2147483647) (qp4_0 : (-2147483648) ≤ p4_0 ∧ p4_0 ≤ 2147483647) : wp_ (fL_feed σ p0_0 p1_0 p2_0 p3_0 p4_0) (fun r => INK ρ r.2) := by
  unfold fL_feed
  have hc : wp_ (fQ_feed σ p0_0 p1_0 p2_0 p3_0 p4_0) (fun r => INK ρ r.2 ∧ ∀ e : Nat, r.1 = .inr e → e = 1) := by
    refine wp_mono (s_Q_feed h.1 qp0_0 qp1_0 qp2_0 qp3_0 qp4_0) (fun r hr => ?_)
    obtain ⟨a0, a1, a2, a3⟩ := hr
    exact ⟨INK_Q0 h a2 (FC_of a3 (by decide)) (by decide), fun e q => by have := a1 e q; omega⟩
  exact wp_bw hc (fun v s hp => wp_waN hp.1.1 b_kLo (by decide) (by decide) (fun τ hτ e => wp_some (INK_lo hp.1 hτ e))) (fun e s hp => wp_if (fun _ => wp_some hp.1) (fun c0 => absurd (hp.2 e rfl) (by omega)))
theorem jL_end {ρ σ : SG} {p0_0 : Int} (h : INK ρ σ) (qp0_0 : (-2147483648) ≤ p0_0 ∧ p0_0 ≤ 2147483647) : wp_ (fL_end σ p0_0) (fun r => INK ρ r.2) := by
  unfold fL_end
  have hc : wp_ (fQ_end σ p0_0) (fun r => INK ρ r.2 ∧ ∀ e : Nat, r.1 = .inr e → e = 1 ∨ e = 2) := by
    refine wp_mono (s_Q_end h.1 qp0_0) (fun r hr => ?_)
    obtain ⟨a0, a1, a2, a3⟩ := hr
    exact ⟨INK_Q0 h a2 (FC_of a3 (by decide)) (by decide), fun e q => by have := a1 e q; omega⟩
  exact wp_bw hc (fun v s hp => wp_waN hp.1.1 b_kLo (by decide) (by decide) (fun τ hτ e => wp_some (INK_lo hp.1 hτ e))) (fun e s hp => wp_if (fun _ => wp_some hp.1) (fun c0 => wp_if (fun _ => wp_some hp.1) (fun c1 => absurd (hp.2 e rfl) (by omega))))
theorem jL_readWords {ρ σ : SG} {p0_0 : Int} (h : INK ρ σ) (qp0_0 : (-2147483648) ≤ p0_0 ∧ p0_0 ≤ 2147483647) : wp_ (fL_readWords σ p0_0) (fun r => INK ρ r.2) := by
  unfold fL_readWords
  have hc : wp_ (fQ_readWords σ p0_0) (fun r => INK ρ r.2 ∧ ∀ e : Nat, r.1 = .inr e → e = 0 ∨ e = 2) := by
    refine wp_mono (s_Q_readWords h.1 qp0_0 h.2.2.1) (fun r hr => ?_)
    obtain ⟨a0, a1, a2, a3⟩ := hr
    exact ⟨INK_Q h a0 a1 (by decide) a2, fun e q => by have := a3 e q; omega⟩
  exact wp_bw hc (fun v s hp => wp_waN hp.1.1 b_kLo (by decide) (by decide) (fun τ hτ e => wp_some (INK_lo hp.1 hτ e))) (fun e s hp => wp_if (fun _ => wp_some hp.1) (fun c0 => wp_if (fun _ => wp_some hp.1) (fun c1 => absurd (hp.2 e rfl) (by omega))))
theorem jL_readBytes {ρ σ : SG} {p0_0 : Int} (h : INK ρ σ) (qp0_0 : (-2147483648) ≤ p0_0 ∧ p0_0 ≤ 2147483647) : wp_ (fL_readBytes σ p0_0) (fun r => INK ρ r.2) := by
  unfold fL_readBytes
  have hc : wp_ (fQ_readBytes σ p0_0) (fun r => INK ρ r.2 ∧ ∀ e : Nat, r.1 = .inr e → e = 0 ∨ e = 2) := by
    refine wp_mono (s_Q_readBytes h.1 qp0_0 h.2.2.1) (fun r hr => ?_)
    obtain ⟨a0, a1, a2, a3⟩ := hr
    exact ⟨INK_Q h a0 a1 (by decide) a2, fun e q => by have := a3 e q; omega⟩
  exact wp_bw hc (fun v s hp => wp_waN hp.1.1 b_kLo (by decide) (by decide) (fun τ hτ e => wp_some (INK_lo hp.1 hτ e))) (fun e s hp => wp_if (fun _ => wp_some hp.1) (fun c0 => wp_if (fun _ => wp_some hp.1) (fun c1 => absurd (hp.2 e rfl) (by omega))))
theorem jL_fault {ρ σ : SG} {p0_0 : Int} (h : INK ρ σ) (qp0_0 : (-2147483648) ≤ p0_0 ∧ p0_0 ≤ 2147483647) : wp_ (fL_fault σ p0_0) (fun r => INK ρ r.2) := by
  unfold fL_fault
  have hc : wp_ (fQ_fault σ p0_0) (fun r => INK ρ r.2 ∧ ∀ e : Nat, r.1 = .inr e → e = 0) := by
    refine wp_mono (s_Q_fault h.1 qp0_0) (fun r hr => ?_)
    obtain ⟨a0, a1, a2, a3⟩ := hr
    exact ⟨INK_Q0 h a2 (FC_of a3 (by decide)) (by decide), fun e q => by have := a1 e q; omega⟩
  exact wp_bw hc (fun v s hp => wp_waN hp.1.1 b_kLo (by decide) (by decide) (fun τ hτ e => wp_some (INK_lo hp.1 hτ e))) (fun e s hp => wp_if (fun _ => wp_some hp.1) (fun c0 => absurd (hp.2 e rfl) (by omega)))
theorem jL_writeWords {ρ σ : SG} {p0_0 : Int} (h : INK ρ σ) (qp0_0 : (-2147483648) ≤ p0_0 ∧ p0_0 ≤ 2147483647) : wp_ (fL_writeWords σ p0_0) (fun r => INK ρ r.2) := by
  unfold fL_writeWords
  have hc : wp_ (fQ_writeWords σ p0_0) (fun r => INK ρ r.2 ∧ ∀ e : Nat, r.1 = .inr e → e = 0 ∨ e = 1) := by
    refine wp_mono (s_Q_writeWords h.1 qp0_0 h.2.2.1) (fun r hr => ?_)
    obtain ⟨a0, a1, a2⟩ := hr
    exact ⟨INK_Q0 h a0 a1 (by decide), fun e q => by have := a2 e q; omega⟩
  exact wp_bw hc (fun v s hp => wp_waN hp.1.1 b_kLo (by decide) (by decide) (fun τ hτ e => wp_some (INK_lo hp.1 hτ e))) (fun e s hp => wp_if (fun _ => wp_some hp.1) (fun c0 => wp_if (fun _ => wp_some hp.1) (fun c1 => absurd (hp.2 e rfl) (by omega))))
theorem jL_writeBytes {ρ σ : SG} {p0_0 p1_0 : Int} (h : INK ρ σ) (qp0_0 : (-2147483648) ≤ p0_0 ∧ p0_0 ≤ 2147483647) (qp1_0 : (-2147483648) ≤ p1_0 ∧ p1_0 ≤ 2147483647) : wp_ (fL_writeBytes σ p0_0 p1_0) (fun r => INK ρ r.2) := by
  unfold fL_writeBytes
  have hc : wp_ (fQ_writeBytes σ p0_0 p1_0) (fun r => INK ρ r.2 ∧ ∀ e : Nat, r.1 = .inr e → e = 0 ∨ e = 1 ∨ e = 2) := by
    refine wp_mono (s_Q_writeBytes h.1 qp0_0 qp1_0 h.2.2.1) (fun r hr => ?_)
    obtain ⟨a0, a1, a2⟩ := hr
    exact ⟨INK_Q0 h a0 a1 (by decide), fun e q => by have := a2 e q; omega⟩
  exact wp_bw hc (fun v s hp => wp_waN hp.1.1 b_kLo (by decide) (by decide) (fun τ hτ e => wp_some (INK_lo hp.1 hτ e))) (fun e s hp => wp_if (fun _ => wp_some hp.1) (fun c0 => wp_if (fun _ => wp_some hp.1) (fun c1 => wp_if (fun _ => wp_some hp.1) (fun c2 => absurd (hp.2 e rfl) (by omega)))))
theorem jL_byteAt {ρ σ : SG} {p0_0 : Int} (h : INK ρ σ) (qp0_0 : (-2147483648) ≤ p0_0 ∧ p0_0 ≤ 2147483647) : wp_ (fL_byteAt σ p0_0) (fun r => INK ρ r.2) := by
  unfold fL_byteAt
  have hc : wp_ (fQ_byteAt σ p0_0) (fun r => INK ρ r.2 ∧ ∀ e : Nat, r.1 = .inr e → e = 0) := by
    refine wp_mono (s_Q_byteAt h.1 qp0_0) (fun r hr => ?_)
    obtain ⟨a0, a1, a2, a3⟩ := hr
    exact ⟨INK_Q0 h a2 (FC_of a3 (by decide)) (by decide), fun e q => by have := a1 e q; omega⟩
  exact wp_bw hc (fun v s hp => wp_waN hp.1.1 b_kLo (by decide) (by decide) (fun τ hτ e => wp_some (INK_lo hp.1 hτ e))) (fun e s hp => wp_if (fun _ => wp_some hp.1) (fun c0 => absurd (hp.2 e rfl) (by omega)))
theorem jL_copy {ρ σ : SG} {p0_0 p1_0 : Int} (h : INK ρ σ) (qp0_0 : (-2147483648) ≤ p0_0 ∧ p0_0 ≤ 2147483647) (qp1_0 : (-2147483648) ≤ p1_0 ∧ p1_0 ≤ 2147483647) : wp_ (fL_copy σ p0_0 p1_0) (fun r => INK ρ r.2) := by
  unfold fL_copy
  have hc : wp_ (fQ_copy σ p0_0 p1_0) (fun r => INK ρ r.2 ∧ ∀ e : Nat, r.1 = .inr e → e = 0 ∨ e = 1) := by
    refine wp_mono (s_Q_copy h.1 qp0_0 qp1_0 h.2.2.1) (fun r hr => ?_)
    obtain ⟨a0, a1, a2, a3⟩ := hr
    exact ⟨INK_Q h a0 a1 (by decide) a2, fun e q => by have := a3 e q; omega⟩
  exact wp_bw hc (fun v s hp => wp_waN hp.1.1 b_kLo (by decide) (by decide) (fun τ hτ e => wp_some (INK_lo hp.1 hτ e))) (fun e s hp => wp_if (fun _ => wp_some hp.1) (fun c0 => wp_if (fun _ => wp_some hp.1) (fun c1 => absurd (hp.2 e rfl) (by omega))))
theorem jL_drop {ρ σ : SG} {p0_0 : Int} (h : INK ρ σ) (qp0_0 : (-2147483648) ≤ p0_0 ∧ p0_0 ≤ 2147483647) : wp_ (fL_drop σ p0_0) (fun r => INK ρ r.2) := by
  unfold fL_drop
  have hc : wp_ (fQ_drop σ p0_0) (fun r => INK ρ r.2 ∧ ∀ e : Nat, r.1 = .inr e → e = 0) := by
    refine wp_mono (s_Q_drop h.1 qp0_0 h.2.2.1) (fun r hr => ?_)
    obtain ⟨a0, a1, a2, a3⟩ := hr
    exact ⟨INK_Q h a0 a1 (by decide) a2, fun e q => by have := a3 e q; omega⟩
  refine wp_bx (P := fun q => INK ρ q.2) (wp_bw hc (fun v s hp => wp_if (fun _ => wp_some (x_inl hp.1)) (fun _ => wp_some (x_inl hp.1))) (fun e s hp => wp_if (fun _ => wp_some (x_inr hp.1)) (fun c0 => absurd (hp.2 e rfl) (by omega)))) ?_
  rintro ⟨x, υ⟩ hp
  exact wp_waN (show INK ρ υ from hp).1 b_kLo (by decide) (by decide) (fun τ hτ e => wp_some (INK_lo hp hτ e))
theorem jL_same {ρ σ : SG} {p0_0 p1_0 : Int} (h : INK ρ σ) (qp0_0 : (-2147483648) ≤ p0_0 ∧ p0_0 ≤ 2147483647) (qp1_0 : (-2147483648) ≤ p1_0 ∧ p1_0 ≤ 2147483647) : wp_ (fL_same σ p0_0 p1_0) (fun r => INK ρ r.2) := by
  unfold fL_same
  have hc : wp_ (fQ_same σ p0_0 p1_0) (fun r => INK ρ r.2 ∧ ∀ e : Nat, r.1 = .inr e → e = 0) := by
    refine wp_mono (s_Q_same h.1 qp0_0 qp1_0) (fun r hr => ?_)
    obtain ⟨a0, a1, a2⟩ := hr
    exact ⟨INK_Q0 h a0 a1 (by decide), fun e q => by have := a2 e q; omega⟩
  refine wp_bx (P := fun q => INK ρ q.2) (wp_bw hc (fun v s hp => wp_if (fun _ => wp_some (x_inl hp.1)) (fun _ => wp_some (x_inl hp.1))) (fun e s hp => wp_if (fun _ => wp_some (x_inr hp.1)) (fun c0 => absurd (hp.2 e rfl) (by omega)))) ?_
  rintro ⟨x, υ⟩ hp
  exact wp_waN (show INK ρ υ from hp).1 b_kLo (by decide) (by decide) (fun τ hτ e => wp_some (INK_lo hp hτ e))
theorem jL_judge {ρ σ : SG} {p0_0 : Int} (h : INK ρ σ) (qp0_0 : (-2147483648) ≤ p0_0 ∧ p0_0 ≤ 2147483647) : wp_ (fL_judge σ p0_0) (fun r => INK ρ r.2) := by
  unfold fL_judge
  have hc : wp_ (fQ_judge σ p0_0) (fun r => INK ρ r.2 ∧ ∀ e : Nat, r.1 = .inr e → e = 0 ∨ e = 1) := by
    refine wp_mono (s_Q_judge h.1 qp0_0 h.2.2.1) (fun r hr => ?_)
    obtain ⟨a0, a1, a2⟩ := hr
    exact ⟨INK_Q0 h a0 a1 (by decide), fun e q => by have := a2 e q; omega⟩
  exact wp_bw hc (fun v s hp => wp_waN hp.1.1 b_kLo (by decide) (by decide) (fun τ hτ e => wp_some (INK_lo hp.1 hτ e))) (fun e s hp => wp_if (fun _ => wp_some hp.1) (fun c0 => wp_if (fun _ => wp_some hp.1) (fun c1 => absurd (hp.2 e rfl) (by omega))))
theorem jL_place {ρ σ : SG} {p0_0 : Int} (h : INK ρ σ) (qp0_0 : (-2147483648) ≤ p0_0 ∧ p0_0 ≤ 2147483647) : wp_ (fL_place σ p0_0) (fun r => INK ρ r.2) := by
  unfold fL_place
  have hc : wp_ (fQ_place σ p0_0) (fun r => INK ρ r.2 ∧ ∀ e : Nat, r.1 = .inr e → e = 0) := by
    refine wp_mono (s_Q_place h.1 qp0_0) (fun r hr => ?_)
    obtain ⟨a0, a1, a2, a3⟩ := hr
    exact ⟨INK_Q0 h a2 (FC_of a3 (by decide)) (by decide), fun e q => by have := a1 e q; omega⟩
  exact wp_bw hc (fun v s hp => wp_waN hp.1.1 b_kLo (by decide) (by decide) (fun τ hτ e => wp_some (INK_lo hp.1 hτ e))) (fun e s hp => wp_if (fun _ => wp_some hp.1) (fun c0 => absurd (hp.2 e rfl) (by omega)))
theorem jL_overlay {ρ σ : SG} {p0_0 p1_0 p2_0 p3_0 : Int} (h : INK ρ σ) (qp0_0 : (-2147483648) ≤ p0_0 ∧ p0_0 ≤ 2147483647) (qp1_0 : (-2147483648) ≤ p1_0 ∧ p1_0 ≤ 2147483647) (qp2_0 : (-2147483648) ≤ p2_0 ∧ p2_0 ≤ 2147483647) (qp3_0 : (-2147483648) ≤ p3_0 ∧ p3_0 ≤ 2147483647) : wp_ (fL_overlay σ p0_0 p1_0 p2_0 p3_0) (fun r => INK ρ r.2) := by
  unfold fL_overlay
  have hc : wp_ (fQ_overlay σ p0_0 p1_0 p2_0 p3_0) (fun r => INK ρ r.2 ∧ ∀ e : Nat, r.1 = .inr e → e = 0 ∨ e = 1 ∨ e = 2 ∨ e = 3) := by
    refine wp_mono (s_Q_overlay h.1 qp0_0 qp1_0 qp2_0 qp3_0 h.2.2.1) (fun r hr => ?_)
    obtain ⟨a0, a1, a2, a3⟩ := hr
    exact ⟨INK_Q h a0 a1 (by decide) a2, fun e q => by have := a3 e q; omega⟩
  exact wp_bw hc (fun v s hp => wp_waN hp.1.1 b_kLo (by decide) (by decide) (fun τ hτ e => wp_some (INK_lo hp.1 hτ e))) (fun e s hp => wp_if (fun _ => wp_some hp.1) (fun c0 => wp_if (fun _ => wp_some hp.1) (fun c1 => wp_if (fun _ => wp_some hp.1) (fun c2 => wp_if (fun _ => wp_some hp.1) (fun c3 => absurd (hp.2 e rfl) (by omega))))))
theorem jL_relate {ρ σ : SG} {p0_0 p1_0 : Int} (h : INK ρ σ) (qp0_0 : (-2147483648) ≤ p0_0 ∧ p0_0 ≤ 2147483647) (qp1_0 : (-2147483648) ≤ p1_0 ∧ p1_0 ≤ 2147483647) : wp_ (fL_relate σ p0_0 p1_0) (fun r => INK ρ r.2) := by
  unfold fL_relate
  have hc : wp_ (fQ_relate σ p0_0 p1_0) (fun r => INK ρ r.2 ∧ ∀ e : Nat, r.1 = .inr e → e = 0 ∨ e = 1 ∨ e = 2 ∨ e = 3) := by
    refine wp_mono (s_Q_relate h.1 qp0_0 qp1_0 h.2.2.1) (fun r hr => ?_)
    obtain ⟨a0, a1, a2⟩ := hr
    exact ⟨INK_Q0 h a0 a1 (by decide), fun e q => by have := a2 e q; omega⟩
  exact wp_bw hc (fun v s hp => wp_waN hp.1.1 b_kLo (by decide) (by decide) (fun τ hτ e => wp_some (INK_lo hp.1 hτ e))) (fun e s hp => wp_if (fun _ => wp_some hp.1) (fun c0 => wp_if (fun _ => wp_some hp.1) (fun c1 => wp_if (fun _ => wp_some hp.1) (fun c2 => wp_if (fun _ => wp_some hp.1) (fun c3 => absurd (hp.2 e rfl) (by omega))))))
theorem jL_is {ρ σ : SG} {p0_0 p1_0 p2_0 : Int} (h : INK ρ σ) (qp0_0 : (-2147483648) ≤ p0_0 ∧ p0_0 ≤ 2147483647) (qp1_0 : (-2147483648) ≤ p1_0 ∧ p1_0 ≤ 2147483647) (qp2_0 : (-2147483648) ≤ p2_0 ∧ p2_0 ≤ 2147483647) : wp_ (fL_is σ p0_0 p1_0 p2_0) (fun r => INK ρ r.2) := by
  unfold fL_is
  have hc : wp_ (fQ_is σ p0_0 p1_0 p2_0) (fun r => INK ρ r.2 ∧ ∀ e : Nat, r.1 = .inr e → e = 0 ∨ e = 1 ∨ e = 2 ∨ e = 3) := by
    refine wp_mono (s_Q_is h.1 qp0_0 qp1_0 qp2_0 h.2.2.1) (fun r hr => ?_)
    obtain ⟨a0, a1, a2⟩ := hr
    exact ⟨INK_Q0 h a0 a1 (by decide), fun e q => by have := a2 e q; omega⟩
  refine wp_bx (P := fun q => INK ρ q.2) (wp_bw hc (fun v s hp => wp_if (fun _ => wp_some (x_inl hp.1)) (fun _ => wp_some (x_inl hp.1))) (fun e s hp => wp_if (fun _ => wp_some (x_inr hp.1)) (fun c0 => wp_if (fun _ => wp_some (x_inr hp.1)) (fun c1 => wp_if (fun _ => wp_some (x_inr hp.1)) (fun c2 => wp_if (fun _ => wp_some (x_inr hp.1)) (fun c3 => absurd (hp.2 e rfl) (by omega))))))) ?_
  rintro ⟨x, υ⟩ hp
  exact wp_waN (show INK ρ υ from hp).1 b_kLo (by decide) (by decide) (fun τ hτ e => wp_some (INK_lo hp hτ e))
theorem jL_locate {ρ σ : SG} {p0_0 p1_0 p2_0 : Int} (h : INK ρ σ) (qp0_0 : (-2147483648) ≤ p0_0 ∧ p0_0 ≤ 2147483647) (qp1_0 : (-2147483648) ≤ p1_0 ∧ p1_0 ≤ 2147483647) (qp2_0 : (-2147483648) ≤ p2_0 ∧ p2_0 ≤ 2147483647) : wp_ (fL_locate σ p0_0 p1_0 p2_0) (fun r => INK ρ r.2) := by
  unfold fL_locate
  have hc : wp_ (fQ_locate σ p0_0 p1_0 p2_0) (fun r => INK ρ r.2 ∧ ∀ e : Nat, r.1 = .inr e → e = 0 ∨ e = 1 ∨ e = 2 ∨ e = 3) := by
    refine wp_mono (s_Q_locate h.1 qp0_0 qp1_0 qp2_0 h.2.2.1) (fun r hr => ?_)
    obtain ⟨a0, a1, a2⟩ := hr
    exact ⟨INK_Q0 h a0 a1 (by decide), fun e q => by have := a2 e q; omega⟩
  exact wp_bw hc (fun v s hp => wp_waN hp.1.1 b_kLo (by decide) (by decide) (fun τ hτ e => wp_some (INK_lo hp.1 hτ e))) (fun e s hp => wp_if (fun _ => wp_some hp.1) (fun c0 => wp_if (fun _ => wp_some hp.1) (fun c1 => wp_if (fun _ => wp_some hp.1) (fun c2 => wp_if (fun _ => wp_some hp.1) (fun c3 => absurd (hp.2 e rfl) (by omega))))))
theorem jL_hull {ρ σ : SG} {p0_0 p1_0 : Int} (h : INK ρ σ) (qp0_0 : (-2147483648) ≤ p0_0 ∧ p0_0 ≤ 2147483647) (qp1_0 : (-2147483648) ≤ p1_0 ∧ p1_0 ≤ 2147483647) : wp_ (fL_hull σ p0_0 p1_0) (fun r => INK ρ r.2) := by
  unfold fL_hull
  have hc : wp_ (fQ_hull σ p0_0 p1_0) (fun r => INK ρ r.2 ∧ ∀ e : Nat, r.1 = .inr e → e = 0 ∨ e = 1 ∨ e = 3) := by
    refine wp_mono (s_Q_hull h.1 qp0_0 qp1_0 h.2.2.1) (fun r hr => ?_)
    obtain ⟨a0, a1, a2, a3⟩ := hr
    exact ⟨INK_Q h a0 a1 (by decide) a2, fun e q => by have := a3 e q; omega⟩
  exact wp_bw hc (fun v s hp => wp_waN hp.1.1 b_kLo (by decide) (by decide) (fun τ hτ e => wp_some (INK_lo hp.1 hτ e))) (fun e s hp => wp_if (fun _ => wp_some hp.1) (fun c0 => wp_if (fun _ => wp_some hp.1) (fun c1 => wp_if (fun _ => wp_some hp.1) (fun c2 => absurd (hp.2 e rfl) (by omega)))))
theorem jL_triangles {ρ σ : SG} {p0_0 p1_0 : Int} (h : INK ρ σ) (qp0_0 : (-2147483648) ≤ p0_0 ∧ p0_0 ≤ 2147483647) (qp1_0 : (-2147483648) ≤ p1_0 ∧ p1_0 ≤ 2147483647) : wp_ (fL_triangles σ p0_0 p1_0) (fun r => INK ρ r.2) := by
  unfold fL_triangles
  have hc : wp_ (fQ_triangles σ p0_0 p1_0) (fun r => INK ρ r.2 ∧ ∀ e : Nat, r.1 = .inr e → e = 0 ∨ e = 1 ∨ e = 3) := by
    refine wp_mono (s_Q_triangles h.1 qp0_0 qp1_0 h.2.2.1) (fun r hr => ?_)
    obtain ⟨a0, a1, a2, a3⟩ := hr
    exact ⟨INK_Q h a0 a1 (by decide) a2, fun e q => by have := a3 e q; omega⟩
  exact wp_bw hc (fun v s hp => wp_waN hp.1.1 b_kLo (by decide) (by decide) (fun τ hτ e => wp_some (INK_lo hp.1 hτ e))) (fun e s hp => wp_if (fun _ => wp_some hp.1) (fun c0 => wp_if (fun _ => wp_some hp.1) (fun c1 => wp_if (fun _ => wp_some hp.1) (fun c2 => absurd (hp.2 e rfl) (by omega)))))
theorem jL_simplify {ρ σ : SG} {p0_0 p1_0 p2_0 : Int} (h : INK ρ σ) (qp0_0 : (-2147483648) ≤ p0_0 ∧ p0_0 ≤ 2147483647) (qp1_0 : (-2147483648) ≤ p1_0 ∧ p1_0 ≤ 2147483647) (qp2_0 : (-2147483648) ≤ p2_0 ∧ p2_0 ≤ 2147483647) : wp_ (fL_simplify σ p0_0 p1_0 p2_0) (fun r => INK ρ r.2) := by
  unfold fL_simplify
  have hc : wp_ (fQ_simplify σ p0_0 p1_0 p2_0) (fun r => INK ρ r.2 ∧ ∀ e : Nat, r.1 = .inr e → e = 0 ∨ e = 1 ∨ e = 2) := by
    refine wp_mono (s_Q_simplify h.1 qp0_0 qp1_0 qp2_0 h.2.2.1) (fun r hr => ?_)
    obtain ⟨a0, a1, a2, a3⟩ := hr
    exact ⟨INK_Q h a0 a1 (by decide) a2, fun e q => by have := a3 e q; omega⟩
  exact wp_bw hc (fun v s hp => wp_waN hp.1.1 b_kLo (by decide) (by decide) (fun τ hτ e => wp_some (INK_lo hp.1 hτ e))) (fun e s hp => wp_if (fun _ => wp_some hp.1) (fun c0 => wp_if (fun _ => wp_some hp.1) (fun c1 => wp_if (fun _ => wp_some hp.1) (fun c2 => absurd (hp.2 e rfl) (by omega)))))
theorem jL_area {ρ σ : SG} {p0_0 : Int} (h : INK ρ σ) (qp0_0 : (-2147483648) ≤ p0_0 ∧ p0_0 ≤ 2147483647) : wp_ (fL_area σ p0_0) (fun r => INK ρ r.2) := by
  unfold fL_area
  have hc : wp_ (fQ_area σ p0_0) (fun r => INK ρ r.2 ∧ ∀ e : Nat, r.1 = .inr e → e = 0 ∨ e = 1) := by
    refine wp_mono (s_Q_area h.1 qp0_0 h.2.2.1) (fun r hr => ?_)
    obtain ⟨a0, a1, a2⟩ := hr
    exact ⟨INK_Q0 h a0 a1 (by decide), fun e q => by have := a2 e q; omega⟩
  exact wp_bw hc (fun v s hp => wp_waN hp.1.1 b_kLo (by decide) (by decide) (fun τ hτ e => wp_some (INK_lo hp.1 hτ e))) (fun e s hp => wp_if (fun _ => wp_some hp.1) (fun c0 => wp_if (fun _ => wp_some hp.1) (fun c1 => absurd (hp.2 e rfl) (by omega))))
theorem jL_bounds {ρ σ : SG} {p0_0 p1_0 : Int} (h : INK ρ σ) (qp0_0 : (-2147483648) ≤ p0_0 ∧ p0_0 ≤ 2147483647) (qp1_0 : (-2147483648) ≤ p1_0 ∧ p1_0 ≤ 2147483647) : wp_ (fL_bounds σ p0_0 p1_0) (fun r => INK ρ r.2) := by
  unfold fL_bounds
  have hc : wp_ (fQ_bounds σ p0_0 p1_0) (fun r => INK ρ r.2 ∧ ∀ e : Nat, r.1 = .inr e → e = 0 ∨ e = 1 ∨ e = 2) := by
    refine wp_mono (s_Q_bounds h.1 qp0_0 qp1_0) (fun r hr => ?_)
    obtain ⟨a0, a1, a2⟩ := hr
    exact ⟨INK_Q0 h a0 a1 (by decide), fun e q => by have := a2 e q; omega⟩
  exact wp_bw hc (fun v s hp => wp_waN hp.1.1 b_kLo (by decide) (by decide) (fun τ hτ e => wp_some (INK_lo hp.1 hτ e))) (fun e s hp => wp_if (fun _ => wp_some hp.1) (fun c0 => wp_if (fun _ => wp_some hp.1) (fun c1 => wp_if (fun _ => wp_some hp.1) (fun c2 => absurd (hp.2 e rfl) (by omega)))))
theorem jL_find {ρ σ : SG} {p0_0 p1_0 p2_0 p3_0 p4_0 : Int} (h : INK ρ σ) (qp0_0 : (-2147483648) ≤ p0_0 ∧ p0_0 ≤ 2147483647) (qp1_0 : (-2147483648) ≤ p1_0 ∧ p1_0 ≤ 2147483647) (qp2_0 : (-2147483648) ≤ p2_0 ∧ p2_0 ≤ 2147483647) (qp3_0 : (-2147483648) ≤ p3_0 ∧ p3_0 ≤ 2147483647) (qp4_0 : (-2147483648) ≤ p4_0 ∧ p4_0 ≤ 2147483647) : wp_ (fL_find σ p0_0 p1_0 p2_0 p3_0 p4_0) (fun r => INK ρ r.2) := by
  unfold fL_find
  have hc : wp_ (fQ_find σ p0_0 p1_0 p2_0 p3_0 p4_0) (fun r => INK ρ r.2 ∧ ∀ e : Nat, r.1 = .inr e → e = 2) := by
    refine wp_mono (s_Q_find h.1 qp0_0 qp1_0 qp2_0 qp3_0 qp4_0) (fun r hr => ?_)
    obtain ⟨a0, a1, a2⟩ := hr
    exact ⟨INK_Q0 h a0 a1 (by decide), fun e q => by have := a2 e q; omega⟩
  exact wp_bw hc (fun v s hp => wp_waN hp.1.1 b_kLo (by decide) (by decide) (fun τ hτ e => wp_some (INK_lo hp.1 hτ e))) (fun e s hp => wp_if (fun _ => wp_some hp.1) (fun c0 => absurd (hp.2 e rfl) (by omega)))
theorem jL_nearest {ρ σ : SG} {p0_0 p1_0 p2_0 : Int} (h : INK ρ σ) (qp0_0 : (-2147483648) ≤ p0_0 ∧ p0_0 ≤ 2147483647) (qp1_0 : (-2147483648) ≤ p1_0 ∧ p1_0 ≤ 2147483647) (qp2_0 : (-2147483648) ≤ p2_0 ∧ p2_0 ≤ 2147483647) : wp_ (fL_nearest σ p0_0 p1_0 p2_0) (fun r => INK ρ r.2) := by
  unfold fL_nearest
  have hc : wp_ (fQ_nearest σ p0_0 p1_0 p2_0) (fun r => INK ρ r.2 ∧ ∀ e : Nat, r.1 = .inr e → e = 2) := by
    refine wp_mono (s_Q_nearest h.1 qp0_0 qp1_0 qp2_0) (fun r hr => ?_)
    obtain ⟨a0, a1, a2⟩ := hr
    exact ⟨INK_Q0 h a0 a1 (by decide), fun e q => by have := a2 e q; omega⟩
  exact wp_bw hc (fun v s hp => wp_waN hp.1.1 b_kLo (by decide) (by decide) (fun τ hτ e => wp_some (INK_lo hp.1 hτ e))) (fun e s hp => wp_if (fun _ => wp_some hp.1) (fun c0 => absurd (hp.2 e rfl) (by omega)))
theorem jL_found {ρ σ : SG} {p0_0 : Int} (h : INK ρ σ) (qp0_0 : (-2147483648) ≤ p0_0 ∧ p0_0 ≤ 2147483647) : wp_ (fL_found σ p0_0) (fun r => INK ρ r.2) := by
  unfold fL_found
  have hc : wp_ (fQ_found σ p0_0) (fun r => INK ρ r.2 ∧ ∀ e : Nat, r.1 = .inr e → e = 0) := by
    refine wp_mono (s_Q_found h.1 qp0_0) (fun r hr => ?_)
    obtain ⟨a0, a1, a2, a3⟩ := hr
    exact ⟨INK_Q0 h a2 (FC_of a3 (by decide)) (by decide), fun e q => by have := a1 e q; omega⟩
  exact wp_bw hc (fun v s hp => wp_waN hp.1.1 b_kLo (by decide) (by decide) (fun τ hτ e => wp_some (INK_lo hp.1 hτ e))) (fun e s hp => wp_if (fun _ => wp_some hp.1) (fun c0 => absurd (hp.2 e rfl) (by omega)))
theorem jL_plan {ρ σ : SG} {p0_0 p1_0 : Int} (h : INK ρ σ) (qp0_0 : (-2147483648) ≤ p0_0 ∧ p0_0 ≤ 2147483647) (qp1_0 : (-2147483648) ≤ p1_0 ∧ p1_0 ≤ 2147483647) : wp_ (fL_plan σ p0_0 p1_0) (fun r => INK ρ r.2) := by
  unfold fL_plan
  have hc : wp_ (fQ_plan σ p0_0 p1_0) (fun r => INK ρ r.2 ∧ ∀ e : Nat, r.1 = .inr e → e = 0) := by
    refine wp_mono (s_Q_plan h.1 qp0_0 qp1_0) (fun r hr => ?_)
    obtain ⟨a0, a1, a2⟩ := hr
    exact ⟨INK_Q0 h a0 a1 (by decide), fun e q => by have := a2 e q; omega⟩
  exact wp_bw hc (fun v s hp => wp_waN hp.1.1 b_kLo (by decide) (by decide) (fun τ hτ e => wp_some (INK_lo hp.1 hτ e))) (fun e s hp => wp_if (fun _ => wp_some hp.1) (fun c0 => absurd (hp.2 e rfl) (by omega)))
theorem jL_ordinate {ρ σ : SG} {p0_0 p1_0 p2_0 : Int} (h : INK ρ σ) (qp0_0 : (-2147483648) ≤ p0_0 ∧ p0_0 ≤ 2147483647) (qp1_0 : (-2147483648) ≤ p1_0 ∧ p1_0 ≤ 2147483647) (qp2_0 : (-2147483648) ≤ p2_0 ∧ p2_0 ≤ 2147483647) : wp_ (fL_ordinate σ p0_0 p1_0 p2_0) (fun r => INK ρ r.2) := by
  unfold fL_ordinate
  have hc : wp_ (fQ_ordinate σ p0_0 p1_0 p2_0) (fun r => INK ρ r.2 ∧ ∀ e : Nat, r.1 = .inr e → e = 0) := by
    refine wp_mono (s_Q_ordinate h.1 qp0_0 qp1_0 qp2_0) (fun r hr => ?_)
    obtain ⟨a0, a1, a2⟩ := hr
    exact ⟨INK_Q0 h a0 a1 (by decide), fun e q => by have := a2 e q; omega⟩
  exact wp_bw hc (fun v s hp => wp_waN hp.1.1 b_kLo (by decide) (by decide) (fun τ hτ e => wp_some (INK_lo hp.1 hτ e))) (fun e s hp => wp_if (fun _ => wp_some hp.1) (fun c0 => absurd (hp.2 e rfl) (by omega)))
theorem jL_count {ρ σ : SG} {p0_0 p1_0 : Int} (h : INK ρ σ) (qp0_0 : (-2147483648) ≤ p0_0 ∧ p0_0 ≤ 2147483647) (qp1_0 : (-2147483648) ≤ p1_0 ∧ p1_0 ≤ 2147483647) : wp_ (fL_count σ p0_0 p1_0) (fun r => INK ρ r.2) := by
  unfold fL_count
  have hc : wp_ (fQ_count σ p0_0 p1_0) (fun r => INK ρ r.2 ∧ ∀ e : Nat, r.1 = .inr e → e = 0) := by
    refine wp_mono (s_Q_count h.1 qp0_0 qp1_0) (fun r hr => ?_)
    obtain ⟨a0, a1, a2⟩ := hr
    exact ⟨INK_Q0 h a0 a1 (by decide), fun e q => by have := a2 e q; omega⟩
  exact wp_bw hc (fun v s hp => wp_waN hp.1.1 b_kLo (by decide) (by decide) (fun τ hτ e => wp_some (INK_lo hp.1 hτ e))) (fun e s hp => wp_if (fun _ => wp_some hp.1) (fun c0 => absurd (hp.2 e rfl) (by omega)))
theorem jL_side {ρ σ : SG} {p0_0 p1_0 p2_0 : Int} (h : INK ρ σ) (qp0_0 : (-2147483648) ≤ p0_0 ∧ p0_0 ≤ 2147483647) (qp1_0 : (-2147483648) ≤ p1_0 ∧ p1_0 ≤ 2147483647) (qp2_0 : (-2147483648) ≤ p2_0 ∧ p2_0 ≤ 2147483647) : wp_ (fL_side σ p0_0 p1_0 p2_0) (fun r => INK ρ r.2) := by
  unfold fL_side
  have hc : wp_ (fQ_side σ p0_0 p1_0 p2_0) (fun r => INK ρ r.2 ∧ ∀ e : Nat, r.1 = .inr e → e = 0) := by
    refine wp_mono (s_Q_side h.1 qp0_0 qp1_0 qp2_0) (fun r hr => ?_)
    obtain ⟨a0, a1, a2⟩ := hr
    exact ⟨INK_Q0 h a0 a1 (by decide), fun e q => by have := a2 e q; omega⟩
  exact wp_bw hc (fun v s hp => wp_waN hp.1.1 b_kLo (by decide) (by decide) (fun τ hτ e => wp_some (INK_lo hp.1 hτ e))) (fun e s hp => wp_if (fun _ => wp_some hp.1) (fun c0 => absurd (hp.2 e rfl) (by omega)))
theorem jL_circle {ρ σ : SG} {p0_0 p1_0 p2_0 p3_0 : Int} (h : INK ρ σ) (qp0_0 : (-2147483648) ≤ p0_0 ∧ p0_0 ≤ 2147483647) (qp1_0 : (-2147483648) ≤ p1_0 ∧ p1_0 ≤ 2147483647) (qp2_0 : (-2147483648) ≤ p2_0 ∧ p2_0 ≤ 2147483647) (qp3_0 : (-2147483648) ≤ p3_0 ∧ p3_0 ≤ 2147483647) : wp_ (fL_circle σ p0_0 p1_0 p2_0 p3_0) (fun r => INK ρ r.2) := by
  unfold fL_circle
  have hc : wp_ (fQ_circle σ p0_0 p1_0 p2_0 p3_0) (fun r => INK ρ r.2 ∧ ∀ e : Nat, r.1 = .inr e → e = 0) := by
    refine wp_mono (s_Q_circle h.1 qp0_0 qp1_0 qp2_0 qp3_0) (fun r hr => ?_)
    obtain ⟨a0, a1, a2⟩ := hr
    exact ⟨INK_Q0 h a0 a1 (by decide), fun e q => by have := a2 e q; omega⟩
  exact wp_bw hc (fun v s hp => wp_waN hp.1.1 b_kLo (by decide) (by decide) (fun τ hτ e => wp_some (INK_lo hp.1 hτ e))) (fun e s hp => wp_if (fun _ => wp_some hp.1) (fun c0 => absurd (hp.2 e rfl) (by omega)))
theorem jR_again {ρ σ : SG} (h : INK ρ σ)  : wp_ (fR_again σ ) (fun r => INK ρ r.2) := by
  refine wp_mono (s_R_again h.1) (fun r hr => ?_)
  obtain ⟨a0, a1, a2⟩ := hr
  exact INK_R h a1 a2 (by decide) (by decide) (SHs_f a2 (by decide) h.2.1)
theorem jR_area {ρ σ : SG} {slot_0 : Int} (h : INK ρ σ) (qslot_0 : (-2147483648) ≤ slot_0 ∧ slot_0 ≤ 2147483647) : wp_ (fR_area σ slot_0) (fun r => INK ρ r.2) := by
  refine wp_mono (s_R_area h.1 qslot_0 h.2.1) (fun r hr => ?_)
  obtain ⟨a0, a1⟩ := hr
  exact INK_R h a0 a1 (by decide) (by decide) (SHs_f a1 (by decide) h.2.1)
theorem jR_bounds {ρ σ : SG} {slot_0 what_0 : Int} (h : INK ρ σ) (qslot_0 : (-2147483648) ≤ slot_0 ∧ slot_0 ≤ 2147483647) (qwhat_0 : (-2147483648) ≤ what_0 ∧ what_0 ≤ 2147483647) : wp_ (fR_bounds σ slot_0 what_0) (fun r => INK ρ r.2) := by
  refine wp_mono (s_R_bounds h.1 qslot_0 qwhat_0) (fun r hr => ?_)
  obtain ⟨a0, a1, a2⟩ := hr
  exact INK_R h a1 a2 (by decide) (by decide) (SHs_f a2 (by decide) h.2.1)
theorem jR_byteAt {ρ σ : SG} {i_0 : Int} (h : INK ρ σ) (qi_0 : (-2147483648) ≤ i_0 ∧ i_0 ≤ 2147483647) : wp_ (fR_byteAt σ i_0) (fun r => INK ρ r.2) := by
  refine wp_mono (s_R_byteAt h.1 qi_0) (fun r hr => ?_)
  obtain ⟨a0, a1, a2⟩ := hr
  exact INK_R h a1 a2 (by decide) (by decide) (SHs_f a2 (by decide) h.2.1)
theorem jR_circle {ρ σ : SG} {i_0 j_0 k_0 l_0 : Int} (h : INK ρ σ) (qi_0 : (-2147483648) ≤ i_0 ∧ i_0 ≤ 2147483647) (qj_0 : (-2147483648) ≤ j_0 ∧ j_0 ≤ 2147483647) (qk_0 : (-2147483648) ≤ k_0 ∧ k_0 ≤ 2147483647) (ql_0 : (-2147483648) ≤ l_0 ∧ l_0 ≤ 2147483647) : wp_ (fR_circle σ i_0 j_0 k_0 l_0) (fun r => INK ρ r.2) := by
  refine wp_mono (s_R_circle h.1 qi_0 qj_0 qk_0 ql_0) (fun r hr => ?_)
  obtain ⟨a0, a1⟩ := hr
  exact INK_R h a0 a1 (by decide) (by decide) (SHs_f a1 (by decide) h.2.1)
theorem jR_copy {ρ σ : SG} {from_0 to_0 : Int} (h : INK ρ σ) (qfrom_0 : (-2147483648) ≤ from_0 ∧ from_0 ≤ 2147483647) (qto_0 : (-2147483648) ≤ to_0 ∧ to_0 ≤ 2147483647) : wp_ (fR_copy σ from_0 to_0) (fun r => INK ρ r.2) := by
  refine wp_mono (v_copy h.1 qfrom_0 qto_0 h.2.1) (fun r hr => ?_)
  obtain ⟨a0, a1, a2⟩ := hr
  exact INK_R h a0 a1 (by decide) (by decide) a2
theorem jR_count {ρ σ : SG} {slot_0 what_0 : Int} (h : INK ρ σ) (qslot_0 : (-2147483648) ≤ slot_0 ∧ slot_0 ≤ 2147483647) (qwhat_0 : (-2147483648) ≤ what_0 ∧ what_0 ≤ 2147483647) : wp_ (fR_count σ slot_0 what_0) (fun r => INK ρ r.2) := by
  refine wp_mono (s_R_count h.1 qslot_0 qwhat_0) (fun r hr => ?_)
  obtain ⟨a0, a1, a2⟩ := hr
  exact INK_R h a1 a2 (by decide) (by decide) (SHs_f a2 (by decide) h.2.1)
theorem jR_drop {ρ σ : SG} {slot_0 : Int} (h : INK ρ σ) (qslot_0 : (-2147483648) ≤ slot_0 ∧ slot_0 ≤ 2147483647) : wp_ (fR_drop σ slot_0) (fun r => INK ρ r.2) := by
  refine wp_mono (v_drop h.1 qslot_0 h.2.1) (fun r hr => ?_)
  obtain ⟨a0, a1, a2⟩ := hr
  exact INK_R h a0 a1 (by decide) (by decide) a2
theorem jR_end {ρ σ : SG} {n_0 : Int} (h : INK ρ σ) (qn_0 : (-2147483648) ≤ n_0 ∧ n_0 ≤ 2147483647) : wp_ (fR_end σ n_0) (fun r => INK ρ r.2) := by
  refine wp_mono (s_R_end h.1 qn_0) (fun r hr => ?_)
  obtain ⟨a0, a1, a2⟩ := hr
  exact INK_R h a1 a2 (by decide) (by decide) (SHs_f a2 (by decide) h.2.1)
theorem jR_fault {ρ σ : SG} {what_0 : Int} (h : INK ρ σ) (qwhat_0 : (-2147483648) ≤ what_0 ∧ what_0 ≤ 2147483647) : wp_ (fR_fault σ what_0) (fun r => INK ρ r.2) := by
  refine wp_mono (s_R_fault h.1 qwhat_0) (fun r hr => ?_)
  obtain ⟨a0, a1, a2⟩ := hr
  exact INK_R h a1 a2 (by decide) (by decide) (SHs_f a2 (by decide) h.2.1)
theorem jR_feed {ρ σ : SG} {a_0 b_0 c_0 d_0 e_0 : Int} (h : INK ρ σ) (qa_0 : (-2147483648) ≤ a_0 ∧ a_0 ≤ 2147483647) (qb_0 : (-2147483648) ≤ b_0 ∧ b_0 ≤ 2147483647) (qc_0 : (-2147483648) ≤ c_0 ∧ c_0 ≤ 2147483647) (qd_0 : (-2147483648) ≤ d_0 ∧ d_0 ≤ 2147483647) (qe_0 : (-2147483648) ≤ e_0 ∧ e_0 ≤ 2147483647) : wp_ (fR_feed σ a_0 b_0 c_0 d_0 e_0) (fun r => INK ρ r.2) := by
  refine wp_mono (s_R_feed h.1 qa_0 qb_0 qc_0 qd_0 qe_0) (fun r hr => ?_)
  obtain ⟨a0, a1, a2⟩ := hr
  exact INK_R h a1 a2 (by decide) (by decide) (SHs_f a2 (by decide) h.2.1)
theorem jR_find {ρ σ : SG} {what_0 lowX0_0 lowY0_0 highX0_0 highY0_0 : Int} (h : INK ρ σ) (qwhat_0 : (-2147483648) ≤ what_0 ∧ what_0 ≤ 2147483647) (qlowX0_0 : (-2147483648) ≤ lowX0_0 ∧ lowX0_0 ≤ 2147483647) (qlowY0_0 : (-2147483648) ≤ lowY0_0 ∧ lowY0_0 ≤ 2147483647) (qhighX0_0 : (-2147483648) ≤ highX0_0 ∧ highX0_0 ≤ 2147483647) (qhighY0_0 : (-2147483648) ≤ highY0_0 ∧ highY0_0 ≤ 2147483647) : wp_ (fR_find σ what_0 lowX0_0 lowY0_0 highX0_0 highY0_0) (fun r => INK ρ r.2) := by
  refine wp_mono (s_R_find h.1 qwhat_0 qlowX0_0 qlowY0_0 qhighX0_0 qhighY0_0) (fun r hr => ?_)
  obtain ⟨a0, a1⟩ := hr
  exact INK_R h a0 a1 (by decide) (by decide) (SHs_f a1 (by decide) h.2.1)
theorem jR_found {ρ σ : SG} {k_0 : Int} (h : INK ρ σ) (qk_0 : (-2147483648) ≤ k_0 ∧ k_0 ≤ 2147483647) : wp_ (fR_found σ k_0) (fun r => INK ρ r.2) := by
  refine wp_mono (s_R_found h.1 qk_0) (fun r hr => ?_)
  obtain ⟨a0, a1, a2⟩ := hr
  exact INK_R h a1 a2 (by decide) (by decide) (SHs_f a2 (by decide) h.2.1)
theorem jR_hull {ρ σ : SG} {slot_0 to_0 : Int} (h : INK ρ σ) (qslot_0 : (-2147483648) ≤ slot_0 ∧ slot_0 ≤ 2147483647) (qto_0 : (-2147483648) ≤ to_0 ∧ to_0 ≤ 2147483647) : wp_ (fR_hull σ slot_0 to_0) (fun r => INK ρ r.2) := by
  refine wp_mono (s_R_hull h.1 qslot_0 qto_0 h.2.1) (fun r hr => ?_)
  obtain ⟨a0, a1, a2⟩ := hr
  exact INK_R h a0 a1 (by decide) (by decide) a2
theorem jR_is {ρ σ : SG} {what_0 slot_0 other_0 : Int} (h : INK ρ σ) (qwhat_0 : (-2147483648) ≤ what_0 ∧ what_0 ≤ 2147483647) (qslot_0 : (-2147483648) ≤ slot_0 ∧ slot_0 ≤ 2147483647) (qother_0 : (-2147483648) ≤ other_0 ∧ other_0 ≤ 2147483647) : wp_ (fR_is σ what_0 slot_0 other_0) (fun r => INK ρ r.2) := by
  refine wp_mono (s_R_is h.1 qwhat_0 qslot_0 qother_0 h.2.1) (fun r hr => ?_)
  obtain ⟨a0, a1⟩ := hr
  exact INK_R h a0 a1 (by decide) (by decide) (SHs_f a1 (by decide) h.2.1)
theorem jR_judge {ρ σ : SG} {slot_0 : Int} (h : INK ρ σ) (qslot_0 : (-2147483648) ≤ slot_0 ∧ slot_0 ≤ 2147483647) : wp_ (fR_judge σ slot_0) (fun r => INK ρ r.2) := by
  refine wp_mono (s_R_judge h.1 qslot_0 h.2.1) (fun r hr => ?_)
  obtain ⟨a0, a1, a2⟩ := hr
  exact INK_R h a1 a2 (by decide) (by decide) (SHs_f a2 (by decide) h.2.1)
theorem jR_locate {ρ σ : SG} {slot_0 x_0 y_0 : Int} (h : INK ρ σ) (qslot_0 : (-2147483648) ≤ slot_0 ∧ slot_0 ≤ 2147483647) (qx_0 : (-2147483648) ≤ x_0 ∧ x_0 ≤ 2147483647) (qy_0 : (-2147483648) ≤ y_0 ∧ y_0 ≤ 2147483647) : wp_ (fR_locate σ slot_0 x_0 y_0) (fun r => INK ρ r.2) := by
  refine wp_mono (s_R_locate h.1 qslot_0 qx_0 qy_0 h.2.1) (fun r hr => ?_)
  obtain ⟨a0, a1⟩ := hr
  exact INK_R h a0 a1 (by decide) (by decide) (SHs_f a1 (by decide) h.2.1)
theorem jR_nearest {ρ σ : SG} {x_0 y_0 n_0 : Int} (h : INK ρ σ) (qx_0 : (-2147483648) ≤ x_0 ∧ x_0 ≤ 2147483647) (qy_0 : (-2147483648) ≤ y_0 ∧ y_0 ≤ 2147483647) (qn_0 : (-2147483648) ≤ n_0 ∧ n_0 ≤ 2147483647) : wp_ (fR_nearest σ x_0 y_0 n_0) (fun r => INK ρ r.2) := by
  refine wp_mono (s_R_nearest h.1 qx_0 qy_0 qn_0) (fun r hr => ?_)
  obtain ⟨a0, a1, a2⟩ := hr
  exact INK_R h a1 a2 (by decide) (by decide) (SHs_f a2 (by decide) h.2.1)
theorem jR_ordinate {ρ σ : SG} {slot_0 i_0 what_0 : Int} (h : INK ρ σ) (qslot_0 : (-2147483648) ≤ slot_0 ∧ slot_0 ≤ 2147483647) (qi_0 : (-2147483648) ≤ i_0 ∧ i_0 ≤ 2147483647) (qwhat_0 : (-2147483648) ≤ what_0 ∧ what_0 ≤ 2147483647) : wp_ (fR_ordinate σ slot_0 i_0 what_0) (fun r => INK ρ r.2) := by
  refine wp_mono (s_R_ordinate h.1 qslot_0 qi_0 qwhat_0) (fun r hr => ?_)
  obtain ⟨a0, a1, a2⟩ := hr
  exact INK_R h a1 a2 (by decide) (by decide) (SHs_f a2 (by decide) h.2.1)
theorem jR_overlay {ρ σ : SG} {what_0 slot_0 other_0 to_0 : Int} (h : INK ρ σ) (qwhat_0 : (-2147483648) ≤ what_0 ∧ what_0 ≤ 2147483647) (qslot_0 : (-2147483648) ≤ slot_0 ∧ slot_0 ≤ 2147483647) (qother_0 : (-2147483648) ≤ other_0 ∧ other_0 ≤ 2147483647) (qto_0 : (-2147483648) ≤ to_0 ∧ to_0 ≤ 2147483647) : wp_ (fR_overlay σ what_0 slot_0 other_0 to_0) (fun r => INK ρ r.2) := by
  refine wp_mono (v_overlay h.1 qwhat_0 qslot_0 qother_0 qto_0 h.2.1) (fun r hr => ?_)
  obtain ⟨a0, a1, a2⟩ := hr
  exact INK_R h a0 a1 (by decide) (by decide) a2
theorem jR_place {ρ σ : SG} {what_0 : Int} (h : INK ρ σ) (qwhat_0 : (-2147483648) ≤ what_0 ∧ what_0 ≤ 2147483647) : wp_ (fR_place σ what_0) (fun r => INK ρ r.2) := by
  refine wp_mono (s_R_place h.1 qwhat_0) (fun r hr => ?_)
  obtain ⟨a0, a1, a2⟩ := hr
  exact INK_R h a1 a2 (by decide) (by decide) (SHs_f a2 (by decide) h.2.1)
theorem jR_plan {ρ σ : SG} {slot_0 i_0 : Int} (h : INK ρ σ) (qslot_0 : (-2147483648) ≤ slot_0 ∧ slot_0 ≤ 2147483647) (qi_0 : (-2147483648) ≤ i_0 ∧ i_0 ≤ 2147483647) : wp_ (fR_plan σ slot_0 i_0) (fun r => INK ρ r.2) := by
  refine wp_mono (s_R_plan h.1 qslot_0 qi_0) (fun r hr => ?_)
  obtain ⟨a0, a1⟩ := hr
  exact INK_R h a0 a1 (by decide) (by decide) (SHs_f a1 (by decide) h.2.1)
theorem jR_readBytes {ρ σ : SG} {slot_0 : Int} (h : INK ρ σ) (qslot_0 : (-2147483648) ≤ slot_0 ∧ slot_0 ≤ 2147483647) : wp_ (fR_readBytes σ slot_0) (fun r => INK ρ r.2) := by
  refine wp_mono (v_readBytes h.1 qslot_0 h.2.1) (fun r hr => ?_)
  obtain ⟨a0, a1, a2⟩ := hr
  exact INK_R h a0 a1 (by decide) (by decide) a2
theorem jR_readWords {ρ σ : SG} {slot_0 : Int} (h : INK ρ σ) (qslot_0 : (-2147483648) ≤ slot_0 ∧ slot_0 ≤ 2147483647) : wp_ (fR_readWords σ slot_0) (fun r => INK ρ r.2) := by
  refine wp_mono (v_readWords h.1 qslot_0 h.2.1) (fun r hr => ?_)
  obtain ⟨a0, a1, a2⟩ := hr
  exact INK_R h a0 a1 (by decide) (by decide) a2
theorem jR_relate {ρ σ : SG} {slot_0 other_0 : Int} (h : INK ρ σ) (qslot_0 : (-2147483648) ≤ slot_0 ∧ slot_0 ≤ 2147483647) (qother_0 : (-2147483648) ≤ other_0 ∧ other_0 ≤ 2147483647) : wp_ (fR_relate σ slot_0 other_0) (fun r => INK ρ r.2) := by
  refine wp_mono (s_R_relate h.1 qslot_0 qother_0 h.2.1) (fun r hr => ?_)
  obtain ⟨a0, a1⟩ := hr
  exact INK_R h a0 a1 (by decide) (by decide) (SHs_f a1 (by decide) h.2.1)
theorem jR_same {ρ σ : SG} {slot_0 other_0 : Int} (h : INK ρ σ) (qslot_0 : (-2147483648) ≤ slot_0 ∧ slot_0 ≤ 2147483647) (qother_0 : (-2147483648) ≤ other_0 ∧ other_0 ≤ 2147483647) : wp_ (fR_same σ slot_0 other_0) (fun r => INK ρ r.2) := by
  refine wp_mono (s_R_same h.1 qslot_0 qother_0) (fun r hr => ?_)
  obtain ⟨a0, a1, a2⟩ := hr
  exact INK_R h a1 a2 (by decide) (by decide) (SHs_f a2 (by decide) h.2.1)
theorem jR_side {ρ σ : SG} {i_0 j_0 k_0 : Int} (h : INK ρ σ) (qi_0 : (-2147483648) ≤ i_0 ∧ i_0 ≤ 2147483647) (qj_0 : (-2147483648) ≤ j_0 ∧ j_0 ≤ 2147483647) (qk_0 : (-2147483648) ≤ k_0 ∧ k_0 ≤ 2147483647) : wp_ (fR_side σ i_0 j_0 k_0) (fun r => INK ρ r.2) := by
  refine wp_mono (s_R_side h.1 qi_0 qj_0 qk_0) (fun r hr => ?_)
  obtain ⟨a0, a1, a2⟩ := hr
  exact INK_R h a1 a2 (by decide) (by decide) (SHs_f a2 (by decide) h.2.1)
theorem jR_simplify {ρ σ : SG} {slot_0 to_0 distance_0 : Int} (h : INK ρ σ) (qslot_0 : (-2147483648) ≤ slot_0 ∧ slot_0 ≤ 2147483647) (qto_0 : (-2147483648) ≤ to_0 ∧ to_0 ≤ 2147483647) (qdistance_0 : (-2147483648) ≤ distance_0 ∧ distance_0 ≤ 2147483647) : wp_ (fR_simplify σ slot_0 to_0 distance_0) (fun r => INK ρ r.2) := by
  refine wp_mono (s_R_simplify h.1 qslot_0 qto_0 qdistance_0 h.2.1) (fun r hr => ?_)
  obtain ⟨a0, a1, a2⟩ := hr
  exact INK_R h a0 a1 (by decide) (by decide) a2
theorem jR_triangles {ρ σ : SG} {slot_0 to_0 : Int} (h : INK ρ σ) (qslot_0 : (-2147483648) ≤ slot_0 ∧ slot_0 ≤ 2147483647) (qto_0 : (-2147483648) ≤ to_0 ∧ to_0 ≤ 2147483647) : wp_ (fR_triangles σ slot_0 to_0) (fun r => INK ρ r.2) := by
  refine wp_mono (s_R_triangles h.1 qslot_0 qto_0 h.2.1) (fun r hr => ?_)
  obtain ⟨a0, a1, a2⟩ := hr
  exact INK_R h a0 a1 (by decide) (by decide) a2
theorem jR_writeBytes {ρ σ : SG} {slot_0 order_0 : Int} (h : INK ρ σ) (qslot_0 : (-2147483648) ≤ slot_0 ∧ slot_0 ≤ 2147483647) (qorder_0 : (-2147483648) ≤ order_0 ∧ order_0 ≤ 2147483647) : wp_ (fR_writeBytes σ slot_0 order_0) (fun r => INK ρ r.2) := by
  refine wp_mono (s_R_writeBytes h.1 qslot_0 qorder_0 h.2.1) (fun r hr => ?_)
  obtain ⟨a0, a1⟩ := hr
  exact INK_R h a0 a1 (by decide) (by decide) (SHs_f a1 (by decide) h.2.1)
theorem jR_writeWords {ρ σ : SG} {slot_0 : Int} (h : INK ρ σ) (qslot_0 : (-2147483648) ≤ slot_0 ∧ slot_0 ≤ 2147483647) : wp_ (fR_writeWords σ slot_0) (fun r => INK ρ r.2) := by
  refine wp_mono (s_R_writeWords h.1 qslot_0 h.2.1 h.2.2.2.1) (fun r hr => ?_)
  obtain ⟨a0, a1⟩ := hr
  exact INK_R h a0 a1 (by decide) (by decide) (SHs_f a1 (by decide) h.2.1)
theorem jQ_again {ρ σ : SG} (h : INK ρ σ)  : wp_ (fQ_again σ ) (fun r => INK ρ r.2) := by
  refine wp_mono (s_Q_again h.1) (fun r hr => ?_)
  obtain ⟨a0, a1⟩ := hr
  exact INK_Q0 h a0 a1 (by decide)
end INVK
