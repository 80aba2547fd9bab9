section INV
theorem wp_bw {α β : Type} {o : Option ((α ⊕ Nat) × SG)} {k : α → SG → Option β} {x : Nat → SG → Option β} {P : (α ⊕ Nat) × SG → Prop} {Q : β → Prop} (h : wp_ o P) (h1 : ∀ v s, P (.inl v, s) → wp_ (k v s) Q) (h2 : ∀ e s, P (.inr e, s) → wp_ (x e s) Q) : wp_ (bw_ o k x) Q := by
  obtain ⟨⟨r, s⟩, e, hp⟩ := h
  subst e
  cases r with
  | inl v => exact h1 v s hp
  | inr e => exact h2 e s hp
/-- what holds at the loop's head of the law -/
def INV (σ : SG) : Prop := II σ ∧ SHs σ ∧ SHA σ ∧ UNt σ
theorem b_kLo : bnd kLo = none := by decide +kernel
def Rcs : List Nat := [kR_plan, kR_planMany, kR_pointMany, kR_unit]
theorem INV_c {σ τ : SG} (h : INV σ) (hI : II τ) (e1 : τ kR_plan = σ kR_plan) (e2 : τ kR_planMany = σ kR_planMany) (e3 : τ kR_pointMany = σ kR_pointMany) (e4 : τ kR_unit = σ kR_unit) (hA : SHA τ) : INV τ := by
  refine ⟨hI, fun s a b => ?_, hA, ?_⟩
  · have := h.2.1 s a b
    unfold SH at *
    rw [e1, e2, e3]; exact this
  · have := h.2.2.2
    unfold UNt at *
    rw [e4]; exact this
theorem INV_Q {ms ss : List Nat} {σ τ : SG} (h : INV σ) (hI : II τ) (f : FC ms ss σ τ) (hd : dj ms Rcs = true) (hA : SHA τ) : INV τ := by
  have e : ∀ c, Rcs.contains c = true → 42496 ≤ c → τ c = σ c := fun c hc hl => f.1 c (Or.inr hl) (fun q => by have := dj_c hd (c := c) hc; rw [List.contains_iff_mem.mpr q] at this; cases this)
  exact INV_c h hI (e kR_plan (by decide) (by decide)) (e kR_planMany (by decide) (by decide)) (e kR_pointMany (by decide) (by decide)) (e kR_unit (by decide) (by decide)) hA
theorem INV_Q0 {ms : List Nat} {σ τ : SG} (h : INV σ) (hI : II τ) (f : FC ms [] σ τ) (hd : dj ms Rcs = true) : INV τ := INV_Q h hI f hd (SHA_f f h.2.2.1)
theorem INV_R {ms : List Nat} {σ τ : SG} (h : INV σ) (hI : II τ) (f : FR ms σ τ) (hm : (ms.all fun c => decide (c < 8704 ∨ 42496 ≤ c)) = true) (hu : dj ms [kR_unit] = true) (hS : SHs τ) : INV τ := ⟨hI, hS, SHA_f (FC_of f hm) h.2.2.1, UNt_f f hu h.2.2.2⟩
theorem INV_lo {σ τ : SG} {i v : Int} (h : INV σ) (hI : II τ) (e : τ = sg σ kLo i v) : INV τ := INV_Q0 h hI (FC_sg e (by decide)) (by decide)

theorem iL_feed {σ : SG} {p0_0 p1_0 p2_0 p3_0 p4_0 : Int} (h : INV σ) (qp0_0 : (-2147483648) ≤ p0_0 ∧ p0_0 ≤ 2147483647) (qp1_0 : (-2147483648) ≤ p1_0 ∧ p1_0 ≤ 2147483647) (qp2_0 : (-2147483648) ≤ p2_0 ∧ p2_0 ≤ 2147483647) (qp3_0 : (-2147483648) ≤ p3_0 ∧ p3_0 ≤ 2147483647) (qp4_0 : (-2147483648) ≤ p4_0 ∧ p4_0 ≤ 2147483647) : wp_ (fL_feed σ p0_0 p1_0 p2_0 p3_0 p4_0) (fun r => INV r.2) := by
  unfold fL_feed
  have hc : wp_ (fQ_feed σ p0_0 p1_0 p2_0 p3_0 p4_0) (fun r => INV r.2 ∧ ∀ e : Nat, r.1 = .inr e → e = 1) := by
    refine wp_mono (s_Q_feed h.1 qp0_0 qp1_0 qp2_0 qp3_0 qp4_0) (fun r hr => ?_)
    obtain ⟨a0, a1, a2, a3⟩ := hr
    exact ⟨INV_Q0 h a2 (FC_of a3 (by decide)) (by decide), fun e q => by have := a1 e q; omega⟩
  exact wp_bw hc (fun v s hp => wp_waN hp.1.1 b_kLo (by decide) (by decide) (fun τ hτ e => wp_some (INV_lo hp.1 hτ e))) (fun e s hp => wp_if (fun _ => wp_some hp.1) (fun c0 => absurd (hp.2 e rfl) (by omega)))
theorem iL_end {σ : SG} {p0_0 : Int} (h : INV σ) (qp0_0 : (-2147483648) ≤ p0_0 ∧ p0_0 ≤ 2147483647) : wp_ (fL_end σ p0_0) (fun r => INV r.2) := by
  unfold fL_end
  have hc : wp_ (fQ_end σ p0_0) (fun r => INV r.2 ∧ ∀ e : Nat, r.1 = .inr e → e = 1 ∨ e = 2) := by
    refine wp_mono (s_Q_end h.1 qp0_0) (fun r hr => ?_)
    obtain ⟨a0, a1, a2, a3⟩ := hr
    exact ⟨INV_Q0 h a2 (FC_of a3 (by decide)) (by decide), fun e q => by have := a1 e q; omega⟩
  exact wp_bw hc (fun v s hp => wp_waN hp.1.1 b_kLo (by decide) (by decide) (fun τ hτ e => wp_some (INV_lo hp.1 hτ e))) (fun e s hp => wp_if (fun _ => wp_some hp.1) (fun c0 => wp_if (fun _ => wp_some hp.1) (fun c1 => absurd (hp.2 e rfl) (by omega))))
theorem iL_readWords {σ : SG} {p0_0 : Int} (h : INV σ) (qp0_0 : (-2147483648) ≤ p0_0 ∧ p0_0 ≤ 2147483647) : wp_ (fL_readWords σ p0_0) (fun r => INV r.2) := by
  unfold fL_readWords
  have hc : wp_ (fQ_readWords σ p0_0) (fun r => INV r.2 ∧ ∀ e : Nat, r.1 = .inr e → e = 0 ∨ e = 2) := by
    refine wp_mono (s_Q_readWords h.1 qp0_0 h.2.2.1) (fun r hr => ?_)
    obtain ⟨a0, a1, a2, a3⟩ := hr
    exact ⟨INV_Q h a0 a1 (by decide) a2, fun e q => by have := a3 e q; omega⟩
  exact wp_bw hc (fun v s hp => wp_waN hp.1.1 b_kLo (by decide) (by decide) (fun τ hτ e => wp_some (INV_lo hp.1 hτ e))) (fun e s hp => wp_if (fun _ => wp_some hp.1) (fun c0 => wp_if (fun _ => wp_some hp.1) (fun c1 => absurd (hp.2 e rfl) (by omega))))
theorem iL_readBytes {σ : SG} {p0_0 : Int} (h : INV σ) (qp0_0 : (-2147483648) ≤ p0_0 ∧ p0_0 ≤ 2147483647) : wp_ (fL_readBytes σ p0_0) (fun r => INV r.2) := by
  unfold fL_readBytes
  have hc : wp_ (fQ_readBytes σ p0_0) (fun r => INV r.2 ∧ ∀ e : Nat, r.1 = .inr e → e = 0 ∨ e = 2) := by
    refine wp_mono (s_Q_readBytes h.1 qp0_0 h.2.2.1) (fun r hr => ?_)
    obtain ⟨a0, a1, a2, a3⟩ := hr
    exact ⟨INV_Q h a0 a1 (by decide) a2, fun e q => by have := a3 e q; omega⟩
  exact wp_bw hc (fun v s hp => wp_waN hp.1.1 b_kLo (by decide) (by decide) (fun τ hτ e => wp_some (INV_lo hp.1 hτ e))) (fun e s hp => wp_if (fun _ => wp_some hp.1) (fun c0 => wp_if (fun _ => wp_some hp.1) (fun c1 => absurd (hp.2 e rfl) (by omega))))
theorem iL_fault {σ : SG} {p0_0 : Int} (h : INV σ) (qp0_0 : (-2147483648) ≤ p0_0 ∧ p0_0 ≤ 2147483647) : wp_ (fL_fault σ p0_0) (fun r => INV r.2) := by
  unfold fL_fault
  have hc : wp_ (fQ_fault σ p0_0) (fun r => INV r.2 ∧ ∀ e : Nat, r.1 = .inr e → e = 0) := by
    refine wp_mono (s_Q_fault h.1 qp0_0) (fun r hr => ?_)
    obtain ⟨a0, a1, a2, a3⟩ := hr
    exact ⟨INV_Q0 h a2 (FC_of a3 (by decide)) (by decide), fun e q => by have := a1 e q; omega⟩
  exact wp_bw hc (fun v s hp => wp_waN hp.1.1 b_kLo (by decide) (by decide) (fun τ hτ e => wp_some (INV_lo hp.1 hτ e))) (fun e s hp => wp_if (fun _ => wp_some hp.1) (fun c0 => absurd (hp.2 e rfl) (by omega)))
theorem iL_writeWords {σ : SG} {p0_0 : Int} (h : INV σ) (qp0_0 : (-2147483648) ≤ p0_0 ∧ p0_0 ≤ 2147483647) : wp_ (fL_writeWords σ p0_0) (fun r => INV r.2) := by
  unfold fL_writeWords
  have hc : wp_ (fQ_writeWords σ p0_0) (fun r => INV r.2 ∧ ∀ e : Nat, r.1 = .inr e → e = 0 ∨ e = 1) := by
    refine wp_mono (s_Q_writeWords h.1 qp0_0 h.2.2.1) (fun r hr => ?_)
    obtain ⟨a0, a1, a2⟩ := hr
    exact ⟨INV_Q0 h a0 a1 (by decide), fun e q => by have := a2 e q; omega⟩
  exact wp_bw hc (fun v s hp => wp_waN hp.1.1 b_kLo (by decide) (by decide) (fun τ hτ e => wp_some (INV_lo hp.1 hτ e))) (fun e s hp => wp_if (fun _ => wp_some hp.1) (fun c0 => wp_if (fun _ => wp_some hp.1) (fun c1 => absurd (hp.2 e rfl) (by omega))))
theorem iL_writeBytes {σ : SG} {p0_0 p1_0 : Int} (h : INV σ) (qp0_0 : (-2147483648) ≤ p0_0 ∧ p0_0 ≤ 2147483647) (qp1_0 : (-2147483648) ≤ p1_0 ∧ p1_0 ≤ 2147483647) : wp_ (fL_writeBytes σ p0_0 p1_0) (fun r => INV r.2) := by
  unfold fL_writeBytes
  have hc : wp_ (fQ_writeBytes σ p0_0 p1_0) (fun r => INV r.2 ∧ ∀ e : Nat, r.1 = .inr e → e = 0 ∨ e = 1 ∨ e = 2) := by
    refine wp_mono (s_Q_writeBytes h.1 qp0_0 qp1_0 h.2.2.1) (fun r hr => ?_)
    obtain ⟨a0, a1, a2⟩ := hr
    exact ⟨INV_Q0 h a0 a1 (by decide), fun e q => by have := a2 e q; omega⟩
  exact wp_bw hc (fun v s hp => wp_waN hp.1.1 b_kLo (by decide) (by decide) (fun τ hτ e => wp_some (INV_lo hp.1 hτ e))) (fun e s hp => wp_if (fun _ => wp_some hp.1) (fun c0 => wp_if (fun _ => wp_some hp.1) (fun c1 => wp_if (fun _ => wp_some hp.1) (fun c2 => absurd (hp.2 e rfl) (by omega)))))
theorem iL_byteAt {σ : SG} {p0_0 : Int} (h : INV σ) (qp0_0 : (-2147483648) ≤ p0_0 ∧ p0_0 ≤ 2147483647) : wp_ (fL_byteAt σ p0_0) (fun r => INV r.2) := by
  unfold fL_byteAt
  have hc : wp_ (fQ_byteAt σ p0_0) (fun r => INV r.2 ∧ ∀ e : Nat, r.1 = .inr e → e = 0) := by
    refine wp_mono (s_Q_byteAt h.1 qp0_0) (fun r hr => ?_)
    obtain ⟨a0, a1, a2, a3⟩ := hr
    exact ⟨INV_Q0 h a2 (FC_of a3 (by decide)) (by decide), fun e q => by have := a1 e q; omega⟩
  exact wp_bw hc (fun v s hp => wp_waN hp.1.1 b_kLo (by decide) (by decide) (fun τ hτ e => wp_some (INV_lo hp.1 hτ e))) (fun e s hp => wp_if (fun _ => wp_some hp.1) (fun c0 => absurd (hp.2 e rfl) (by omega)))
theorem iL_copy {σ : SG} {p0_0 p1_0 : Int} (h : INV σ) (qp0_0 : (-2147483648) ≤ p0_0 ∧ p0_0 ≤ 2147483647) (qp1_0 : (-2147483648) ≤ p1_0 ∧ p1_0 ≤ 2147483647) : wp_ (fL_copy σ p0_0 p1_0) (fun r => INV r.2) := by
  unfold fL_copy
  have hc : wp_ (fQ_copy σ p0_0 p1_0) (fun r => INV r.2 ∧ ∀ e : Nat, r.1 = .inr e → e = 0 ∨ e = 1) := by
    refine wp_mono (s_Q_copy h.1 qp0_0 qp1_0 h.2.2.1) (fun r hr => ?_)
    obtain ⟨a0, a1, a2, a3⟩ := hr
    exact ⟨INV_Q h a0 a1 (by decide) a2, fun e q => by have := a3 e q; omega⟩
  exact wp_bw hc (fun v s hp => wp_waN hp.1.1 b_kLo (by decide) (by decide) (fun τ hτ e => wp_some (INV_lo hp.1 hτ e))) (fun e s hp => wp_if (fun _ => wp_some hp.1) (fun c0 => wp_if (fun _ => wp_some hp.1) (fun c1 => absurd (hp.2 e rfl) (by omega))))
theorem iL_drop {σ : SG} {p0_0 : Int} (h : INV σ) (qp0_0 : (-2147483648) ≤ p0_0 ∧ p0_0 ≤ 2147483647) : wp_ (fL_drop σ p0_0) (fun r => INV r.2) := by
  unfold fL_drop
  have hc : wp_ (fQ_drop σ p0_0) (fun r => INV r.2 ∧ ∀ e : Nat, r.1 = .inr e → e = 0) := by
    refine wp_mono (s_Q_drop h.1 qp0_0 h.2.2.1) (fun r hr => ?_)
    obtain ⟨a0, a1, a2, a3⟩ := hr
    exact ⟨INV_Q h a0 a1 (by decide) a2, fun e q => by have := a3 e q; omega⟩
  refine wp_bx (P := fun q => INV q.2) (wp_bw hc (fun v s hp => wp_if (fun _ => wp_some (x_inl hp.1)) (fun _ => wp_some (x_inl hp.1))) (fun e s hp => wp_if (fun _ => wp_some (x_inr hp.1)) (fun c0 => absurd (hp.2 e rfl) (by omega)))) ?_
  rintro ⟨x, υ⟩ hp
  exact wp_waN (show INV υ from hp).1 b_kLo (by decide) (by decide) (fun τ hτ e => wp_some (INV_lo hp hτ e))
theorem iL_same {σ : SG} {p0_0 p1_0 : Int} (h : INV σ) (qp0_0 : (-2147483648) ≤ p0_0 ∧ p0_0 ≤ 2147483647) (qp1_0 : (-2147483648) ≤ p1_0 ∧ p1_0 ≤ 2147483647) : wp_ (fL_same σ p0_0 p1_0) (fun r => INV r.2) := by
  unfold fL_same
  have hc : wp_ (fQ_same σ p0_0 p1_0) (fun r => INV r.2 ∧ ∀ e : Nat, r.1 = .inr e → e = 0) := by
    refine wp_mono (s_Q_same h.1 qp0_0 qp1_0) (fun r hr => ?_)
    obtain ⟨a0, a1, a2⟩ := hr
    exact ⟨INV_Q0 h a0 a1 (by decide), fun e q => by have := a2 e q; omega⟩
  refine wp_bx (P := fun q => INV q.2) (wp_bw hc (fun v s hp => wp_if (fun _ => wp_some (x_inl hp.1)) (fun _ => wp_some (x_inl hp.1))) (fun e s hp => wp_if (fun _ => wp_some (x_inr hp.1)) (fun c0 => absurd (hp.2 e rfl) (by omega)))) ?_
  rintro ⟨x, υ⟩ hp
  exact wp_waN (show INV υ from hp).1 b_kLo (by decide) (by decide) (fun τ hτ e => wp_some (INV_lo hp hτ e))
theorem iL_judge {σ : SG} {p0_0 : Int} (h : INV σ) (qp0_0 : (-2147483648) ≤ p0_0 ∧ p0_0 ≤ 2147483647) : wp_ (fL_judge σ p0_0) (fun r => INV r.2) := by
  unfold fL_judge
  have hc : wp_ (fQ_judge σ p0_0) (fun r => INV r.2 ∧ ∀ e : Nat, r.1 = .inr e → e = 0 ∨ e = 1) := by
    refine wp_mono (s_Q_judge h.1 qp0_0 h.2.2.1) (fun r hr => ?_)
    obtain ⟨a0, a1, a2⟩ := hr
    exact ⟨INV_Q0 h a0 a1 (by decide), fun e q => by have := a2 e q; omega⟩
  exact wp_bw hc (fun v s hp => wp_waN hp.1.1 b_kLo (by decide) (by decide) (fun τ hτ e => wp_some (INV_lo hp.1 hτ e))) (fun e s hp => wp_if (fun _ => wp_some hp.1) (fun c0 => wp_if (fun _ => wp_some hp.1) (fun c1 => absurd (hp.2 e rfl) (by omega))))
theorem iL_place {σ : SG} {p0_0 : Int} (h : INV σ) (qp0_0 : (-2147483648) ≤ p0_0 ∧ p0_0 ≤ 2147483647) : wp_ (fL_place σ p0_0) (fun r => INV r.2) := by
  unfold fL_place
  have hc : wp_ (fQ_place σ p0_0) (fun r => INV r.2 ∧ ∀ e : Nat, r.1 = .inr e → e = 0) := by
    refine wp_mono (s_Q_place h.1 qp0_0) (fun r hr => ?_)
    obtain ⟨a0, a1, a2, a3⟩ := hr
    exact ⟨INV_Q0 h a2 (FC_of a3 (by decide)) (by decide), fun e q => by have := a1 e q; omega⟩
  exact wp_bw hc (fun v s hp => wp_waN hp.1.1 b_kLo (by decide) (by decide) (fun τ hτ e => wp_some (INV_lo hp.1 hτ e))) (fun e s hp => wp_if (fun _ => wp_some hp.1) (fun c0 => absurd (hp.2 e rfl) (by omega)))
theorem iL_overlay {σ : SG} {p0_0 p1_0 p2_0 p3_0 : Int} (h : INV σ) (qp0_0 : (-2147483648) ≤ p0_0 ∧ p0_0 ≤ 2147483647) (qp1_0 : (-2147483648) ≤ p1_0 ∧ p1_0 ≤ 2147483647) (qp2_0 : (-2147483648) ≤ p2_0 ∧ p2_0 ≤ 2147483647) (qp3_0 : (-2147483648) ≤ p3_0 ∧ p3_0 ≤ 2147483647) : wp_ (fL_overlay σ p0_0 p1_0 p2_0 p3_0) (fun r => INV r.2) := by
  unfold fL_overlay
  have hc : wp_ (fQ_overlay σ p0_0 p1_0 p2_0 p3_0) (fun r => INV r.2 ∧ ∀ e : Nat, r.1 = .inr e → e = 0 ∨ e = 1 ∨ e = 2 ∨ e = 3) := by
    refine wp_mono (s_Q_overlay h.1 qp0_0 qp1_0 qp2_0 qp3_0 h.2.2.1) (fun r hr => ?_)
    obtain ⟨a0, a1, a2, a3⟩ := hr
    exact ⟨INV_Q h a0 a1 (by decide) a2, fun e q => by have := a3 e q; omega⟩
  exact wp_bw hc (fun v s hp => wp_waN hp.1.1 b_kLo (by decide) (by decide) (fun τ hτ e => wp_some (INV_lo hp.1 hτ e))) (fun e s hp => wp_if (fun _ => wp_some hp.1) (fun c0 => wp_if (fun _ => wp_some hp.1) (fun c1 => wp_if (fun _ => wp_some hp.1) (fun c2 => wp_if (fun _ => wp_some hp.1) (fun c3 => absurd (hp.2 e rfl) (by omega))))))
theorem iL_relate {σ : SG} {p0_0 p1_0 : Int} (h : INV σ) (qp0_0 : (-2147483648) ≤ p0_0 ∧ p0_0 ≤ 2147483647) (qp1_0 : (-2147483648) ≤ p1_0 ∧ p1_0 ≤ 2147483647) : wp_ (fL_relate σ p0_0 p1_0) (fun r => INV r.2) := by
  unfold fL_relate
  have hc : wp_ (fQ_relate σ p0_0 p1_0) (fun r => INV r.2 ∧ ∀ e : Nat, r.1 = .inr e → e = 0 ∨ e = 1 ∨ e = 2 ∨ e = 3) := by
    refine wp_mono (s_Q_relate h.1 qp0_0 qp1_0 h.2.2.1) (fun r hr => ?_)
    obtain ⟨a0, a1, a2⟩ := hr
    exact ⟨INV_Q0 h a0 a1 (by decide), fun e q => by have := a2 e q; omega⟩
  exact wp_bw hc (fun v s hp => wp_waN hp.1.1 b_kLo (by decide) (by decide) (fun τ hτ e => wp_some (INV_lo hp.1 hτ e))) (fun e s hp => wp_if (fun _ => wp_some hp.1) (fun c0 => wp_if (fun _ => wp_some hp.1) (fun c1 => wp_if (fun _ => wp_some hp.1) (fun c2 => wp_if (fun _ => wp_some hp.1) (fun c3 => absurd (hp.2 e rfl) (by omega))))))
theorem iL_is {σ : SG} {p0_0 p1_0 p2_0 : Int} (h : INV σ) (qp0_0 : (-2147483648) ≤ p0_0 ∧ p0_0 ≤ 2147483647) (qp1_0 : (-2147483648) ≤ p1_0 ∧ p1_0 ≤ 2147483647) (qp2_0 : (-2147483648) ≤ p2_0 ∧ p2_0 ≤ 2147483647) : wp_ (fL_is σ p0_0 p1_0 p2_0) (fun r => INV r.2) := by
  unfold fL_is
  have hc : wp_ (fQ_is σ p0_0 p1_0 p2_0) (fun r => INV r.2 ∧ ∀ e : Nat, r.1 = .inr e → e = 0 ∨ e = 1 ∨ e = 2 ∨ e = 3) := by
    refine wp_mono (s_Q_is h.1 qp0_0 qp1_0 qp2_0 h.2.2.1) (fun r hr => ?_)
    obtain ⟨a0, a1, a2⟩ := hr
    exact ⟨INV_Q0 h a0 a1 (by decide), fun e q => by have := a2 e q; omega⟩
  refine wp_bx (P := fun q => INV q.2) (wp_bw hc (fun v s hp => wp_if (fun _ => wp_some (x_inl hp.1)) (fun _ => wp_some (x_inl hp.1))) (fun e s hp => wp_if (fun _ => wp_some (x_inr hp.1)) (fun c0 => wp_if (fun _ => wp_some (x_inr hp.1)) (fun c1 => wp_if (fun _ => wp_some (x_inr hp.1)) (fun c2 => wp_if (fun _ => wp_some (x_inr hp.1)) (fun c3 => absurd (hp.2 e rfl) (by omega))))))) ?_
  rintro ⟨x, υ⟩ hp
  exact wp_waN (show INV υ from hp).1 b_kLo (by decide) (by decide) (fun τ hτ e => wp_some (INV_lo hp hτ e))
theorem iL_locate {σ : SG} {p0_0 p1_0 p2_0 : Int} (h : INV σ) (qp0_0 : (-2147483648) ≤ p0_0 ∧ p0_0 ≤ 2147483647) (qp1_0 : (-2147483648) ≤ p1_0 ∧ p1_0 ≤ 2147483647) (qp2_0 : (-2147483648) ≤ p2_0 ∧ p2_0 ≤ 2147483647) : wp_ (fL_locate σ p0_0 p1_0 p2_0) (fun r => INV r.2) := by
  unfold fL_locate
  have hc : wp_ (fQ_locate σ p0_0 p1_0 p2_0) (fun r => INV r.2 ∧ ∀ e : Nat, r.1 = .inr e → e = 0 ∨ e = 1 ∨ e = 2 ∨ e = 3) := by
    refine wp_mono (s_Q_locate h.1 qp0_0 qp1_0 qp2_0 h.2.2.1) (fun r hr => ?_)
    obtain ⟨a0, a1, a2⟩ := hr
    exact ⟨INV_Q0 h a0 a1 (by decide), fun e q => by have := a2 e q; omega⟩
  exact wp_bw hc (fun v s hp => wp_waN hp.1.1 b_kLo (by decide) (by decide) (fun τ hτ e => wp_some (INV_lo hp.1 hτ e))) (fun e s hp => wp_if (fun _ => wp_some hp.1) (fun c0 => wp_if (fun _ => wp_some hp.1) (fun c1 => wp_if (fun _ => wp_some hp.1) (fun c2 => wp_if (fun _ => wp_some hp.1) (fun c3 => absurd (hp.2 e rfl) (by omega))))))
theorem iL_hull {σ : SG} {p0_0 p1_0 : Int} (h : INV σ) (qp0_0 : (-2147483648) ≤ p0_0 ∧ p0_0 ≤ 2147483647) (qp1_0 : (-2147483648) ≤ p1_0 ∧ p1_0 ≤ 2147483647) : wp_ (fL_hull σ p0_0 p1_0) (fun r => INV r.2) := by
  unfold fL_hull
  have hc : wp_ (fQ_hull σ p0_0 p1_0) (fun r => INV r.2 ∧ ∀ e : Nat, r.1 = .inr e → e = 0 ∨ e = 1 ∨ e = 3) := by
    refine wp_mono (s_Q_hull h.1 qp0_0 qp1_0 h.2.2.1) (fun r hr => ?_)
    obtain ⟨a0, a1, a2, a3⟩ := hr
    exact ⟨INV_Q h a0 a1 (by decide) a2, fun e q => by have := a3 e q; omega⟩
  exact wp_bw hc (fun v s hp => wp_waN hp.1.1 b_kLo (by decide) (by decide) (fun τ hτ e => wp_some (INV_lo hp.1 hτ e))) (fun e s hp => wp_if (fun _ => wp_some hp.1) (fun c0 => wp_if (fun _ => wp_some hp.1) (fun c1 => wp_if (fun _ => wp_some hp.1) (fun c2 => absurd (hp.2 e rfl) (by omega)))))
theorem iL_triangles {σ : SG} {p0_0 p1_0 : Int} (h : INV σ) (qp0_0 : (-2147483648) ≤ p0_0 ∧ p0_0 ≤ 2147483647) (qp1_0 : (-2147483648) ≤ p1_0 ∧ p1_0 ≤ 2147483647) : wp_ (fL_triangles σ p0_0 p1_0) (fun r => INV r.2) := by
  unfold fL_triangles
  have hc : wp_ (fQ_triangles σ p0_0 p1_0) (fun r => INV r.2 ∧ ∀ e : Nat, r.1 = .inr e → e = 0 ∨ e = 1 ∨ e = 3) := by
    refine wp_mono (s_Q_triangles h.1 qp0_0 qp1_0 h.2.2.1) (fun r hr => ?_)
    obtain ⟨a0, a1, a2, a3⟩ := hr
    exact ⟨INV_Q h a0 a1 (by decide) a2, fun e q => by have := a3 e q; omega⟩
  exact wp_bw hc (fun v s hp => wp_waN hp.1.1 b_kLo (by decide) (by decide) (fun τ hτ e => wp_some (INV_lo hp.1 hτ e))) (fun e s hp => wp_if (fun _ => wp_some hp.1) (fun c0 => wp_if (fun _ => wp_some hp.1) (fun c1 => wp_if (fun _ => wp_some hp.1) (fun c2 => absurd (hp.2 e rfl) (by omega)))))
theorem iL_simplify {σ : SG} {p0_0 p1_0 p2_0 : Int} (h : INV σ) (qp0_0 : (-2147483648) ≤ p0_0 ∧ p0_0 ≤ 2147483647) (qp1_0 : (-2147483648) ≤ p1_0 ∧ p1_0 ≤ 2147483647) (qp2_0 : (-2147483648) ≤ p2_0 ∧ p2_0 ≤ 2147483647) : wp_ (fL_simplify σ p0_0 p1_0 p2_0) (fun r => INV r.2) := by
  unfold fL_simplify
  have hc : wp_ (fQ_simplify σ p0_0 p1_0 p2_0) (fun r => INV r.2 ∧ ∀ e : Nat, r.1 = .inr e → e = 0 ∨ e = 1 ∨ e = 2) := by
    refine wp_mono (s_Q_simplify h.1 qp0_0 qp1_0 qp2_0 h.2.2.1) (fun r hr => ?_)
    obtain ⟨a0, a1, a2, a3⟩ := hr
    exact ⟨INV_Q h a0 a1 (by decide) a2, fun e q => by have := a3 e q; omega⟩
  exact wp_bw hc (fun v s hp => wp_waN hp.1.1 b_kLo (by decide) (by decide) (fun τ hτ e => wp_some (INV_lo hp.1 hτ e))) (fun e s hp => wp_if (fun _ => wp_some hp.1) (fun c0 => wp_if (fun _ => wp_some hp.1) (fun c1 => wp_if (fun _ => wp_some hp.1) (fun c2 => absurd (hp.2 e rfl) (by omega)))))
theorem iL_area {σ : SG} {p0_0 : Int} (h : INV σ) (qp0_0 : (-2147483648) ≤ p0_0 ∧ p0_0 ≤ 2147483647) : wp_ (fL_area σ p0_0) (fun r => INV r.2) := by
  unfold fL_area
  have hc : wp_ (fQ_area σ p0_0) (fun r => INV r.2 ∧ ∀ e : Nat, r.1 = .inr e → e = 0 ∨ e = 1) := by
    refine wp_mono (s_Q_area h.1 qp0_0 h.2.2.1) (fun r hr => ?_)
    obtain ⟨a0, a1, a2⟩ := hr
    exact ⟨INV_Q0 h a0 a1 (by decide), fun e q => by have := a2 e q; omega⟩
  exact wp_bw hc (fun v s hp => wp_waN hp.1.1 b_kLo (by decide) (by decide) (fun τ hτ e => wp_some (INV_lo hp.1 hτ e))) (fun e s hp => wp_if (fun _ => wp_some hp.1) (fun c0 => wp_if (fun _ => wp_some hp.1) (fun c1 => absurd (hp.2 e rfl) (by omega))))
theorem iL_bounds {σ : SG} {p0_0 p1_0 : Int} (h : INV σ) (qp0_0 : (-2147483648) ≤ p0_0 ∧ p0_0 ≤ 2147483647) (qp1_0 : (-2147483648) ≤ p1_0 ∧ p1_0 ≤ 2147483647) : wp_ (fL_bounds σ p0_0 p1_0) (fun r => INV r.2) := by
  unfold fL_bounds
  have hc : wp_ (fQ_bounds σ p0_0 p1_0) (fun r => INV r.2 ∧ ∀ e : Nat, r.1 = .inr e → e = 0 ∨ e = 1 ∨ e = 2) := by
    refine wp_mono (s_Q_bounds h.1 qp0_0 qp1_0) (fun r hr => ?_)
    obtain ⟨a0, a1, a2⟩ := hr
    exact ⟨INV_Q0 h a0 a1 (by decide), fun e q => by have := a2 e q; omega⟩
  exact wp_bw hc (fun v s hp => wp_waN hp.1.1 b_kLo (by decide) (by decide) (fun τ hτ e => wp_some (INV_lo hp.1 hτ e))) (fun e s hp => wp_if (fun _ => wp_some hp.1) (fun c0 => wp_if (fun _ => wp_some hp.1) (fun c1 => wp_if (fun _ => wp_some hp.1) (fun c2 => absurd (hp.2 e rfl) (by omega)))))
theorem iL_find {σ : SG} {p0_0 p1_0 p2_0 p3_0 p4_0 : Int} (h : INV σ) (qp0_0 : (-2147483648) ≤ p0_0 ∧ p0_0 ≤ 2147483647) (qp1_0 : (-2147483648) ≤ p1_0 ∧ p1_0 ≤ 2147483647) (qp2_0 : (-2147483648) ≤ p2_0 ∧ p2_0 ≤ 2147483647) (qp3_0 : (-2147483648) ≤ p3_0 ∧ p3_0 ≤ 2147483647) (qp4_0 : (-2147483648) ≤ p4_0 ∧ p4_0 ≤ 2147483647) : wp_ (fL_find σ p0_0 p1_0 p2_0 p3_0 p4_0) (fun r => INV r.2) := by
  unfold fL_find
  have hc : wp_ (fQ_find σ p0_0 p1_0 p2_0 p3_0 p4_0) (fun r => INV r.2 ∧ ∀ e : Nat, r.1 = .inr e → e = 2) := by
    refine wp_mono (s_Q_find h.1 qp0_0 qp1_0 qp2_0 qp3_0 qp4_0) (fun r hr => ?_)
    obtain ⟨a0, a1, a2⟩ := hr
    exact ⟨INV_Q0 h a0 a1 (by decide), fun e q => by have := a2 e q; omega⟩
  exact wp_bw hc (fun v s hp => wp_waN hp.1.1 b_kLo (by decide) (by decide) (fun τ hτ e => wp_some (INV_lo hp.1 hτ e))) (fun e s hp => wp_if (fun _ => wp_some hp.1) (fun c0 => absurd (hp.2 e rfl) (by omega)))
theorem iL_nearest {σ : SG} {p0_0 p1_0 p2_0 : Int} (h : INV σ) (qp0_0 : (-2147483648) ≤ p0_0 ∧ p0_0 ≤ 2147483647) (qp1_0 : (-2147483648) ≤ p1_0 ∧ p1_0 ≤ 2147483647) (qp2_0 : (-2147483648) ≤ p2_0 ∧ p2_0 ≤ 2147483647) : wp_ (fL_nearest σ p0_0 p1_0 p2_0) (fun r => INV r.2) := by
  unfold fL_nearest
  have hc : wp_ (fQ_nearest σ p0_0 p1_0 p2_0) (fun r => INV r.2 ∧ ∀ e : Nat, r.1 = .inr e → e = 2) := by
    refine wp_mono (s_Q_nearest h.1 qp0_0 qp1_0 qp2_0) (fun r hr => ?_)
    obtain ⟨a0, a1, a2⟩ := hr
    exact ⟨INV_Q0 h a0 a1 (by decide), fun e q => by have := a2 e q; omega⟩
  exact wp_bw hc (fun v s hp => wp_waN hp.1.1 b_kLo (by decide) (by decide) (fun τ hτ e => wp_some (INV_lo hp.1 hτ e))) (fun e s hp => wp_if (fun _ => wp_some hp.1) (fun c0 => absurd (hp.2 e rfl) (by omega)))
theorem iL_found {σ : SG} {p0_0 : Int} (h : INV σ) (qp0_0 : (-2147483648) ≤ p0_0 ∧ p0_0 ≤ 2147483647) : wp_ (fL_found σ p0_0) (fun r => INV r.2) := by
  unfold fL_found
  have hc : wp_ (fQ_found σ p0_0) (fun r => INV r.2 ∧ ∀ e : Nat, r.1 = .inr e → e = 0) := by
    refine wp_mono (s_Q_found h.1 qp0_0) (fun r hr => ?_)
    obtain ⟨a0, a1, a2, a3⟩ := hr
    exact ⟨INV_Q0 h a2 (FC_of a3 (by decide)) (by decide), fun e q => by have := a1 e q; omega⟩
  exact wp_bw hc (fun v s hp => wp_waN hp.1.1 b_kLo (by decide) (by decide) (fun τ hτ e => wp_some (INV_lo hp.1 hτ e))) (fun e s hp => wp_if (fun _ => wp_some hp.1) (fun c0 => absurd (hp.2 e rfl) (by omega)))
theorem iL_plan {σ : SG} {p0_0 p1_0 : Int} (h : INV σ) (qp0_0 : (-2147483648) ≤ p0_0 ∧ p0_0 ≤ 2147483647) (qp1_0 : (-2147483648) ≤ p1_0 ∧ p1_0 ≤ 2147483647) : wp_ (fL_plan σ p0_0 p1_0) (fun r => INV r.2) := by
  unfold fL_plan
  have hc : wp_ (fQ_plan σ p0_0 p1_0) (fun r => INV r.2 ∧ ∀ e : Nat, r.1 = .inr e → e = 0) := by
    refine wp_mono (s_Q_plan h.1 qp0_0 qp1_0) (fun r hr => ?_)
    obtain ⟨a0, a1, a2⟩ := hr
    exact ⟨INV_Q0 h a0 a1 (by decide), fun e q => by have := a2 e q; omega⟩
  exact wp_bw hc (fun v s hp => wp_waN hp.1.1 b_kLo (by decide) (by decide) (fun τ hτ e => wp_some (INV_lo hp.1 hτ e))) (fun e s hp => wp_if (fun _ => wp_some hp.1) (fun c0 => absurd (hp.2 e rfl) (by omega)))
theorem iL_ordinate {σ : SG} {p0_0 p1_0 p2_0 : Int} (h : INV σ) (qp0_0 : (-2147483648) ≤ p0_0 ∧ p0_0 ≤ 2147483647) (qp1_0 : (-2147483648) ≤ p1_0 ∧ p1_0 ≤ 2147483647) (qp2_0 : (-2147483648) ≤ p2_0 ∧ p2_0 ≤ 2147483647) : wp_ (fL_ordinate σ p0_0 p1_0 p2_0) (fun r => INV r.2) := by
  unfold fL_ordinate
  have hc : wp_ (fQ_ordinate σ p0_0 p1_0 p2_0) (fun r => INV r.2 ∧ ∀ e : Nat, r.1 = .inr e → e = 0) := by
    refine wp_mono (s_Q_ordinate h.1 qp0_0 qp1_0 qp2_0) (fun r hr => ?_)
    obtain ⟨a0, a1, a2⟩ := hr
    exact ⟨INV_Q0 h a0 a1 (by decide), fun e q => by have := a2 e q; omega⟩
  exact wp_bw hc (fun v s hp => wp_waN hp.1.1 b_kLo (by decide) (by decide) (fun τ hτ e => wp_some (INV_lo hp.1 hτ e))) (fun e s hp => wp_if (fun _ => wp_some hp.1) (fun c0 => absurd (hp.2 e rfl) (by omega)))
theorem iL_count {σ : SG} {p0_0 p1_0 : Int} (h : INV σ) (qp0_0 : (-2147483648) ≤ p0_0 ∧ p0_0 ≤ 2147483647) (qp1_0 : (-2147483648) ≤ p1_0 ∧ p1_0 ≤ 2147483647) : wp_ (fL_count σ p0_0 p1_0) (fun r => INV r.2) := by
  unfold fL_count
  have hc : wp_ (fQ_count σ p0_0 p1_0) (fun r => INV r.2 ∧ ∀ e : Nat, r.1 = .inr e → e = 0) := by
    refine wp_mono (s_Q_count h.1 qp0_0 qp1_0) (fun r hr => ?_)
    obtain ⟨a0, a1, a2⟩ := hr
    exact ⟨INV_Q0 h a0 a1 (by decide), fun e q => by have := a2 e q; omega⟩
  exact wp_bw hc (fun v s hp => wp_waN hp.1.1 b_kLo (by decide) (by decide) (fun τ hτ e => wp_some (INV_lo hp.1 hτ e))) (fun e s hp => wp_if (fun _ => wp_some hp.1) (fun c0 => absurd (hp.2 e rfl) (by omega)))
theorem iL_point {σ : SG} {p0_0 p1_0 p2_0 : Int} (h : INV σ) (qp0_0 : (-2147483648) ≤ p0_0 ∧ p0_0 ≤ 2147483647) (qp1_0 : (-9223372036854775808) ≤ p1_0 ∧ p1_0 ≤ 9223372036854775807) (qp2_0 : (-9223372036854775808) ≤ p2_0 ∧ p2_0 ≤ 9223372036854775807) : wp_ (fL_point σ p0_0 p1_0 p2_0) (fun r => INV r.2) := by
  unfold fL_point
  have hc : wp_ (fQ_point σ p0_0 p1_0 p2_0) (fun r => INV r.2 ∧ ∀ e : Nat, r.1 = .inr e → e = 0 ∨ e = 2) := by
    refine wp_mono (v_pointQ h.1 qp0_0 qp1_0 qp2_0) (fun r hr => ?_)
    obtain ⟨a0, a1, a2⟩ := hr
    exact ⟨INV_Q0 h a0 a1 (by decide), fun e q => by have := a2 e q; omega⟩
  exact wp_bw hc (fun v s hp => wp_some hp.1) (fun e s hp => wp_if (fun _ => wp_some hp.1) (fun c0 => wp_if (fun _ => wp_some hp.1) (fun c1 => absurd (hp.2 e rfl) (by omega))))
theorem iL_side {σ : SG} {p0_0 p1_0 p2_0 : Int} (h : INV σ) (qp0_0 : (-2147483648) ≤ p0_0 ∧ p0_0 ≤ 2147483647) (qp1_0 : (-2147483648) ≤ p1_0 ∧ p1_0 ≤ 2147483647) (qp2_0 : (-2147483648) ≤ p2_0 ∧ p2_0 ≤ 2147483647) : wp_ (fL_side σ p0_0 p1_0 p2_0) (fun r => INV r.2) := by
  unfold fL_side
  have hc : wp_ (fQ_side σ p0_0 p1_0 p2_0) (fun r => INV r.2 ∧ ∀ e : Nat, r.1 = .inr e → e = 0) := by
    refine wp_mono (s_Q_side h.1 qp0_0 qp1_0 qp2_0) (fun r hr => ?_)
    obtain ⟨a0, a1, a2⟩ := hr
    exact ⟨INV_Q0 h a0 a1 (by decide), fun e q => by have := a2 e q; omega⟩
  exact wp_bw hc (fun v s hp => wp_waN hp.1.1 b_kLo (by decide) (by decide) (fun τ hτ e => wp_some (INV_lo hp.1 hτ e))) (fun e s hp => wp_if (fun _ => wp_some hp.1) (fun c0 => absurd (hp.2 e rfl) (by omega)))
theorem iL_circle {σ : SG} {p0_0 p1_0 p2_0 p3_0 : Int} (h : INV σ) (qp0_0 : (-2147483648) ≤ p0_0 ∧ p0_0 ≤ 2147483647) (qp1_0 : (-2147483648) ≤ p1_0 ∧ p1_0 ≤ 2147483647) (qp2_0 : (-2147483648) ≤ p2_0 ∧ p2_0 ≤ 2147483647) (qp3_0 : (-2147483648) ≤ p3_0 ∧ p3_0 ≤ 2147483647) : wp_ (fL_circle σ p0_0 p1_0 p2_0 p3_0) (fun r => INV r.2) := by
  unfold fL_circle
  have hc : wp_ (fQ_circle σ p0_0 p1_0 p2_0 p3_0) (fun r => INV r.2 ∧ ∀ e : Nat, r.1 = .inr e → e = 0) := by
    refine wp_mono (s_Q_circle h.1 qp0_0 qp1_0 qp2_0 qp3_0) (fun r hr => ?_)
    obtain ⟨a0, a1, a2⟩ := hr
    exact ⟨INV_Q0 h a0 a1 (by decide), fun e q => by have := a2 e q; omega⟩
  exact wp_bw hc (fun v s hp => wp_waN hp.1.1 b_kLo (by decide) (by decide) (fun τ hτ e => wp_some (INV_lo hp.1 hτ e))) (fun e s hp => wp_if (fun _ => wp_some hp.1) (fun c0 => absurd (hp.2 e rfl) (by omega)))
theorem iR_again {σ : SG} (h : INV σ)  : wp_ (fR_again σ ) (fun r => INV r.2) := by
  refine wp_mono (s_R_again h.1) (fun r hr => ?_)
  obtain ⟨a0, a1, a2⟩ := hr
  exact INV_R h a1 a2 (by decide) (by decide) (SHs_f a2 (by decide) h.2.1)
theorem iR_area {σ : SG} {slot_0 : Int} (h : INV σ) (qslot_0 : (-2147483648) ≤ slot_0 ∧ slot_0 ≤ 2147483647) : wp_ (fR_area σ slot_0) (fun r => INV r.2) := by
  refine wp_mono (s_R_area h.1 qslot_0 h.2.1) (fun r hr => ?_)
  obtain ⟨a0, a1⟩ := hr
  exact INV_R h a0 a1 (by decide) (by decide) (SHs_f a1 (by decide) h.2.1)
theorem iR_bounds {σ : SG} {slot_0 what_0 : Int} (h : INV σ) (qslot_0 : (-2147483648) ≤ slot_0 ∧ slot_0 ≤ 2147483647) (qwhat_0 : (-2147483648) ≤ what_0 ∧ what_0 ≤ 2147483647) : wp_ (fR_bounds σ slot_0 what_0) (fun r => INV r.2) := by
  refine wp_mono (s_R_bounds h.1 qslot_0 qwhat_0) (fun r hr => ?_)
  obtain ⟨a0, a1, a2⟩ := hr
  exact INV_R h a1 a2 (by decide) (by decide) (SHs_f a2 (by decide) h.2.1)
theorem iR_byteAt {σ : SG} {i_0 : Int} (h : INV σ) (qi_0 : (-2147483648) ≤ i_0 ∧ i_0 ≤ 2147483647) : wp_ (fR_byteAt σ i_0) (fun r => INV r.2) := by
  refine wp_mono (s_R_byteAt h.1 qi_0) (fun r hr => ?_)
  obtain ⟨a0, a1, a2⟩ := hr
  exact INV_R h a1 a2 (by decide) (by decide) (SHs_f a2 (by decide) h.2.1)
theorem iR_circle {σ : SG} {i_0 j_0 k_0 l_0 : Int} (h : INV σ) (qi_0 : (-2147483648) ≤ i_0 ∧ i_0 ≤ 2147483647) (qj_0 : (-2147483648) ≤ j_0 ∧ j_0 ≤ 2147483647) (qk_0 : (-2147483648) ≤ k_0 ∧ k_0 ≤ 2147483647) (ql_0 : (-2147483648) ≤ l_0 ∧ l_0 ≤ 2147483647) : wp_ (fR_circle σ i_0 j_0 k_0 l_0) (fun r => INV r.2) := by
  refine wp_mono (s_R_circle h.1 qi_0 qj_0 qk_0 ql_0) (fun r hr => ?_)
  obtain ⟨a0, a1⟩ := hr
  exact INV_R h a0 a1 (by decide) (by decide) (SHs_f a1 (by decide) h.2.1)
theorem iR_copy {σ : SG} {from_0 to_0 : Int} (h : INV σ) (qfrom_0 : (-2147483648) ≤ from_0 ∧ from_0 ≤ 2147483647) (qto_0 : (-2147483648) ≤ to_0 ∧ to_0 ≤ 2147483647) : wp_ (fR_copy σ from_0 to_0) (fun r => INV r.2) := by
  refine wp_mono (v_copy h.1 qfrom_0 qto_0 h.2.1) (fun r hr => ?_)
  obtain ⟨a0, a1, a2⟩ := hr
  exact INV_R h a0 a1 (by decide) (by decide) a2
theorem iR_count {σ : SG} {slot_0 what_0 : Int} (h : INV σ) (qslot_0 : (-2147483648) ≤ slot_0 ∧ slot_0 ≤ 2147483647) (qwhat_0 : (-2147483648) ≤ what_0 ∧ what_0 ≤ 2147483647) : wp_ (fR_count σ slot_0 what_0) (fun r => INV r.2) := by
  refine wp_mono (s_R_count h.1 qslot_0 qwhat_0) (fun r hr => ?_)
  obtain ⟨a0, a1, a2⟩ := hr
  exact INV_R h a1 a2 (by decide) (by decide) (SHs_f a2 (by decide) h.2.1)
theorem iR_drop {σ : SG} {slot_0 : Int} (h : INV σ) (qslot_0 : (-2147483648) ≤ slot_0 ∧ slot_0 ≤ 2147483647) : wp_ (fR_drop σ slot_0) (fun r => INV r.2) := by
  refine wp_mono (v_drop h.1 qslot_0 h.2.1) (fun r hr => ?_)
  obtain ⟨a0, a1, a2⟩ := hr
  exact INV_R h a0 a1 (by decide) (by decide) a2
theorem iR_end {σ : SG} {n_0 : Int} (h : INV σ) (qn_0 : (-2147483648) ≤ n_0 ∧ n_0 ≤ 2147483647) : wp_ (fR_end σ n_0) (fun r => INV r.2) := by
  refine wp_mono (s_R_end h.1 qn_0) (fun r hr => ?_)
  obtain ⟨a0, a1, a2⟩ := hr
  exact INV_R h a1 a2 (by decide) (by decide) (SHs_f a2 (by decide) h.2.1)
theorem iR_fault {σ : SG} {what_0 : Int} (h : INV σ) (qwhat_0 : (-2147483648) ≤ what_0 ∧ what_0 ≤ 2147483647) : wp_ (fR_fault σ what_0) (fun r => INV r.2) := by
  refine wp_mono (s_R_fault h.1 qwhat_0) (fun r hr => ?_)
  obtain ⟨a0, a1, a2⟩ := hr
  exact INV_R h a1 a2 (by decide) (by decide) (SHs_f a2 (by decide) h.2.1)
theorem iR_feed {σ : SG} {a_0 b_0 c_0 d_0 e_0 : Int} (h : INV σ) (qa_0 : (-2147483648) ≤ a_0 ∧ a_0 ≤ 2147483647) (qb_0 : (-2147483648) ≤ b_0 ∧ b_0 ≤ 2147483647) (qc_0 : (-2147483648) ≤ c_0 ∧ c_0 ≤ 2147483647) (qd_0 : (-2147483648) ≤ d_0 ∧ d_0 ≤ 2147483647) (qe_0 : (-2147483648) ≤ e_0 ∧ e_0 ≤ 2147483647) : wp_ (fR_feed σ a_0 b_0 c_0 d_0 e_0) (fun r => INV r.2) := by
  refine wp_mono (s_R_feed h.1 qa_0 qb_0 qc_0 qd_0 qe_0) (fun r hr => ?_)
  obtain ⟨a0, a1, a2⟩ := hr
  exact INV_R h a1 a2 (by decide) (by decide) (SHs_f a2 (by decide) h.2.1)
theorem iR_find {σ : SG} {what_0 lowX0_0 lowY0_0 highX0_0 highY0_0 : Int} (h : INV σ) (qwhat_0 : (-2147483648) ≤ what_0 ∧ what_0 ≤ 2147483647) (qlowX0_0 : (-2147483648) ≤ lowX0_0 ∧ lowX0_0 ≤ 2147483647) (qlowY0_0 : (-2147483648) ≤ lowY0_0 ∧ lowY0_0 ≤ 2147483647) (qhighX0_0 : (-2147483648) ≤ highX0_0 ∧ highX0_0 ≤ 2147483647) (qhighY0_0 : (-2147483648) ≤ highY0_0 ∧ highY0_0 ≤ 2147483647) : wp_ (fR_find σ what_0 lowX0_0 lowY0_0 highX0_0 highY0_0) (fun r => INV r.2) := by
  refine wp_mono (s_R_find h.1 qwhat_0 qlowX0_0 qlowY0_0 qhighX0_0 qhighY0_0) (fun r hr => ?_)
  obtain ⟨a0, a1⟩ := hr
  exact INV_R h a0 a1 (by decide) (by decide) (SHs_f a1 (by decide) h.2.1)
theorem iR_found {σ : SG} {k_0 : Int} (h : INV σ) (qk_0 : (-2147483648) ≤ k_0 ∧ k_0 ≤ 2147483647) : wp_ (fR_found σ k_0) (fun r => INV r.2) := by
  refine wp_mono (s_R_found h.1 qk_0) (fun r hr => ?_)
  obtain ⟨a0, a1, a2⟩ := hr
  exact INV_R h a1 a2 (by decide) (by decide) (SHs_f a2 (by decide) h.2.1)
theorem iR_hull {σ : SG} {slot_0 to_0 : Int} (h : INV σ) (qslot_0 : (-2147483648) ≤ slot_0 ∧ slot_0 ≤ 2147483647) (qto_0 : (-2147483648) ≤ to_0 ∧ to_0 ≤ 2147483647) : wp_ (fR_hull σ slot_0 to_0) (fun r => INV r.2) := by
  refine wp_mono (s_R_hull h.1 qslot_0 qto_0 h.2.1) (fun r hr => ?_)
  obtain ⟨a0, a1, a2⟩ := hr
  exact INV_R h a0 a1 (by decide) (by decide) a2
theorem iR_is {σ : SG} {what_0 slot_0 other_0 : Int} (h : INV σ) (qwhat_0 : (-2147483648) ≤ what_0 ∧ what_0 ≤ 2147483647) (qslot_0 : (-2147483648) ≤ slot_0 ∧ slot_0 ≤ 2147483647) (qother_0 : (-2147483648) ≤ other_0 ∧ other_0 ≤ 2147483647) : wp_ (fR_is σ what_0 slot_0 other_0) (fun r => INV r.2) := by
  refine wp_mono (s_R_is h.1 qwhat_0 qslot_0 qother_0 h.2.1) (fun r hr => ?_)
  obtain ⟨a0, a1⟩ := hr
  exact INV_R h a0 a1 (by decide) (by decide) (SHs_f a1 (by decide) h.2.1)
theorem iR_judge {σ : SG} {slot_0 : Int} (h : INV σ) (qslot_0 : (-2147483648) ≤ slot_0 ∧ slot_0 ≤ 2147483647) : wp_ (fR_judge σ slot_0) (fun r => INV r.2) := by
  refine wp_mono (s_R_judge h.1 qslot_0 h.2.1) (fun r hr => ?_)
  obtain ⟨a0, a1, a2⟩ := hr
  exact INV_R h a1 a2 (by decide) (by decide) (SHs_f a2 (by decide) h.2.1)
theorem iR_locate {σ : SG} {slot_0 x_0 y_0 : Int} (h : INV σ) (qslot_0 : (-2147483648) ≤ slot_0 ∧ slot_0 ≤ 2147483647) (qx_0 : (-2147483648) ≤ x_0 ∧ x_0 ≤ 2147483647) (qy_0 : (-2147483648) ≤ y_0 ∧ y_0 ≤ 2147483647) : wp_ (fR_locate σ slot_0 x_0 y_0) (fun r => INV r.2) := by
  refine wp_mono (s_R_locate h.1 qslot_0 qx_0 qy_0 h.2.1) (fun r hr => ?_)
  obtain ⟨a0, a1⟩ := hr
  exact INV_R h a0 a1 (by decide) (by decide) (SHs_f a1 (by decide) h.2.1)
theorem iR_nearest {σ : SG} {x_0 y_0 n_0 : Int} (h : INV σ) (qx_0 : (-2147483648) ≤ x_0 ∧ x_0 ≤ 2147483647) (qy_0 : (-2147483648) ≤ y_0 ∧ y_0 ≤ 2147483647) (qn_0 : (-2147483648) ≤ n_0 ∧ n_0 ≤ 2147483647) : wp_ (fR_nearest σ x_0 y_0 n_0) (fun r => INV r.2) := by
  refine wp_mono (s_R_nearest h.1 qx_0 qy_0 qn_0) (fun r hr => ?_)
  obtain ⟨a0, a1, a2⟩ := hr
  exact INV_R h a1 a2 (by decide) (by decide) (SHs_f a2 (by decide) h.2.1)
theorem iR_ordinate {σ : SG} {slot_0 i_0 what_0 : Int} (h : INV σ) (qslot_0 : (-2147483648) ≤ slot_0 ∧ slot_0 ≤ 2147483647) (qi_0 : (-2147483648) ≤ i_0 ∧ i_0 ≤ 2147483647) (qwhat_0 : (-2147483648) ≤ what_0 ∧ what_0 ≤ 2147483647) : wp_ (fR_ordinate σ slot_0 i_0 what_0) (fun r => INV r.2) := by
  refine wp_mono (s_R_ordinate h.1 qslot_0 qi_0 qwhat_0) (fun r hr => ?_)
  obtain ⟨a0, a1, a2⟩ := hr
  exact INV_R h a1 a2 (by decide) (by decide) (SHs_f a2 (by decide) h.2.1)
theorem iR_overlay {σ : SG} {what_0 slot_0 other_0 to_0 : Int} (h : INV σ) (qwhat_0 : (-2147483648) ≤ what_0 ∧ what_0 ≤ 2147483647) (qslot_0 : (-2147483648) ≤ slot_0 ∧ slot_0 ≤ 2147483647) (qother_0 : (-2147483648) ≤ other_0 ∧ other_0 ≤ 2147483647) (qto_0 : (-2147483648) ≤ to_0 ∧ to_0 ≤ 2147483647) : wp_ (fR_overlay σ what_0 slot_0 other_0 to_0) (fun r => INV r.2) := by
  refine wp_mono (v_overlay h.1 qwhat_0 qslot_0 qother_0 qto_0 h.2.1) (fun r hr => ?_)
  obtain ⟨a0, a1, a2⟩ := hr
  exact INV_R h a0 a1 (by decide) (by decide) a2
theorem iR_place {σ : SG} {what_0 : Int} (h : INV σ) (qwhat_0 : (-2147483648) ≤ what_0 ∧ what_0 ≤ 2147483647) : wp_ (fR_place σ what_0) (fun r => INV r.2) := by
  refine wp_mono (s_R_place h.1 qwhat_0) (fun r hr => ?_)
  obtain ⟨a0, a1, a2⟩ := hr
  exact INV_R h a1 a2 (by decide) (by decide) (SHs_f a2 (by decide) h.2.1)
theorem iR_plan {σ : SG} {slot_0 i_0 : Int} (h : INV σ) (qslot_0 : (-2147483648) ≤ slot_0 ∧ slot_0 ≤ 2147483647) (qi_0 : (-2147483648) ≤ i_0 ∧ i_0 ≤ 2147483647) : wp_ (fR_plan σ slot_0 i_0) (fun r => INV r.2) := by
  refine wp_mono (s_R_plan h.1 qslot_0 qi_0) (fun r hr => ?_)
  obtain ⟨a0, a1⟩ := hr
  exact INV_R h a0 a1 (by decide) (by decide) (SHs_f a1 (by decide) h.2.1)
theorem iR_point {σ : SG} {i_0 x_0 y_0 : Int} (h : INV σ) (qi_0 : (-2147483648) ≤ i_0 ∧ i_0 ≤ 2147483647) (qx_0 : (-9223372036854775808) ≤ x_0 ∧ x_0 ≤ 9223372036854775807) (qy_0 : (-9223372036854775808) ≤ y_0 ∧ y_0 ≤ 9223372036854775807) : wp_ (fR_point σ i_0 x_0 y_0) (fun r => INV r) := by
  refine wp_mono (s_R_point h.1 qi_0 qx_0 qy_0) (fun r hr => ?_)
  obtain ⟨a0, a1⟩ := hr
  exact INV_R h a0 a1 (by decide) (by decide) (SHs_f a1 (by decide) h.2.1)
theorem iR_readBytes {σ : SG} {slot_0 : Int} (h : INV σ) (qslot_0 : (-2147483648) ≤ slot_0 ∧ slot_0 ≤ 2147483647) : wp_ (fR_readBytes σ slot_0) (fun r => INV r.2) := by
  refine wp_mono (v_readBytes h.1 qslot_0 h.2.1) (fun r hr => ?_)
  obtain ⟨a0, a1, a2⟩ := hr
  exact INV_R h a0 a1 (by decide) (by decide) a2
theorem iR_readWords {σ : SG} {slot_0 : Int} (h : INV σ) (qslot_0 : (-2147483648) ≤ slot_0 ∧ slot_0 ≤ 2147483647) : wp_ (fR_readWords σ slot_0) (fun r => INV r.2) := by
  refine wp_mono (v_readWords h.1 qslot_0 h.2.1) (fun r hr => ?_)
  obtain ⟨a0, a1, a2⟩ := hr
  exact INV_R h a0 a1 (by decide) (by decide) a2
theorem iR_relate {σ : SG} {slot_0 other_0 : Int} (h : INV σ) (qslot_0 : (-2147483648) ≤ slot_0 ∧ slot_0 ≤ 2147483647) (qother_0 : (-2147483648) ≤ other_0 ∧ other_0 ≤ 2147483647) : wp_ (fR_relate σ slot_0 other_0) (fun r => INV r.2) := by
  refine wp_mono (s_R_relate h.1 qslot_0 qother_0 h.2.1) (fun r hr => ?_)
  obtain ⟨a0, a1⟩ := hr
  exact INV_R h a0 a1 (by decide) (by decide) (SHs_f a1 (by decide) h.2.1)
theorem iR_same {σ : SG} {slot_0 other_0 : Int} (h : INV σ) (qslot_0 : (-2147483648) ≤ slot_0 ∧ slot_0 ≤ 2147483647) (qother_0 : (-2147483648) ≤ other_0 ∧ other_0 ≤ 2147483647) : wp_ (fR_same σ slot_0 other_0) (fun r => INV r.2) := by
  refine wp_mono (s_R_same h.1 qslot_0 qother_0) (fun r hr => ?_)
  obtain ⟨a0, a1, a2⟩ := hr
  exact INV_R h a1 a2 (by decide) (by decide) (SHs_f a2 (by decide) h.2.1)
theorem iR_side {σ : SG} {i_0 j_0 k_0 : Int} (h : INV σ) (qi_0 : (-2147483648) ≤ i_0 ∧ i_0 ≤ 2147483647) (qj_0 : (-2147483648) ≤ j_0 ∧ j_0 ≤ 2147483647) (qk_0 : (-2147483648) ≤ k_0 ∧ k_0 ≤ 2147483647) : wp_ (fR_side σ i_0 j_0 k_0) (fun r => INV r.2) := by
  refine wp_mono (s_R_side h.1 qi_0 qj_0 qk_0) (fun r hr => ?_)
  obtain ⟨a0, a1, a2⟩ := hr
  exact INV_R h a1 a2 (by decide) (by decide) (SHs_f a2 (by decide) h.2.1)
theorem iR_simplify {σ : SG} {slot_0 to_0 distance_0 : Int} (h : INV σ) (qslot_0 : (-2147483648) ≤ slot_0 ∧ slot_0 ≤ 2147483647) (qto_0 : (-2147483648) ≤ to_0 ∧ to_0 ≤ 2147483647) (qdistance_0 : (-2147483648) ≤ distance_0 ∧ distance_0 ≤ 2147483647) : wp_ (fR_simplify σ slot_0 to_0 distance_0) (fun r => INV r.2) := by
  refine wp_mono (s_R_simplify h.1 qslot_0 qto_0 qdistance_0 h.2.1) (fun r hr => ?_)
  obtain ⟨a0, a1, a2⟩ := hr
  exact INV_R h a0 a1 (by decide) (by decide) a2
theorem iR_triangles {σ : SG} {slot_0 to_0 : Int} (h : INV σ) (qslot_0 : (-2147483648) ≤ slot_0 ∧ slot_0 ≤ 2147483647) (qto_0 : (-2147483648) ≤ to_0 ∧ to_0 ≤ 2147483647) : wp_ (fR_triangles σ slot_0 to_0) (fun r => INV r.2) := by
  refine wp_mono (s_R_triangles h.1 qslot_0 qto_0 h.2.1) (fun r hr => ?_)
  obtain ⟨a0, a1, a2⟩ := hr
  exact INV_R h a0 a1 (by decide) (by decide) a2
theorem iR_writeBytes {σ : SG} {slot_0 order_0 : Int} (h : INV σ) (qslot_0 : (-2147483648) ≤ slot_0 ∧ slot_0 ≤ 2147483647) (qorder_0 : (-2147483648) ≤ order_0 ∧ order_0 ≤ 2147483647) : wp_ (fR_writeBytes σ slot_0 order_0) (fun r => INV r.2) := by
  refine wp_mono (s_R_writeBytes h.1 qslot_0 qorder_0 h.2.1) (fun r hr => ?_)
  obtain ⟨a0, a1⟩ := hr
  exact INV_R h a0 a1 (by decide) (by decide) (SHs_f a1 (by decide) h.2.1)
theorem iR_writeWords {σ : SG} {slot_0 : Int} (h : INV σ) (qslot_0 : (-2147483648) ≤ slot_0 ∧ slot_0 ≤ 2147483647) : wp_ (fR_writeWords σ slot_0) (fun r => INV r.2) := by
  refine wp_mono (s_R_writeWords h.1 qslot_0 h.2.1 h.2.2.2) (fun r hr => ?_)
  obtain ⟨a0, a1⟩ := hr
  exact INV_R h a0 a1 (by decide) (by decide) (SHs_f a1 (by decide) h.2.1)
theorem iQ_again {σ : SG} (h : INV σ)  : wp_ (fQ_again σ ) (fun r => INV r.2) := by
  refine wp_mono (s_Q_again h.1) (fun r hr => ?_)
  obtain ⟨a0, a1⟩ := hr
  exact INV_Q0 h a0 a1 (by decide)
end INV
