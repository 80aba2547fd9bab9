section PQS
/-- both sides hold the same points of the signs -/
def PSq (σ : SG) : Prop := ∀ n, 0 ≤ n → n < 32 → σ kI_x n = σ kR_signX n ∧ σ kI_y n = σ kR_signY n
theorem PQ_k {σ τ : SG} (h : PSq σ) (k : KP4 σ τ) : PSq τ := by
  intro n n0 n1
  rw [k.1, k.2.1, k.2.2.1, k.2.2.2]; exact h n n0 n1
theorem PQ_0 (dg : Int32) : PSq (sg0 dg) := by
  intro n _ _
  rw [sg0_z dg (c := kI_x) (by decide) (by decide) (by decide), sg0_z dg (c := kI_y) (by decide) (by decide) (by decide), sg0_z dg (c := kR_signX) (by decide) (by decide) (by decide), sg0_z dg (c := kR_signY) (by decide) (by decide) (by decide)]
  exact ⟨rfl, rfl⟩
theorem eL_pt {σ : SG} {i x y : Int} : wp_ (fL_point σ i x y) (fun r => (cPt i x y = 0 → r.2 = sg (sg σ kI_x (w32 i) x) kI_y (w32 i) y) ∧ (¬ cPt i x y = 0 → r.2 = σ)) := by
  unfold fL_point fQ_point
  by_cases hi : (w32 i) < 0 ∨ 32 ≤ (w32 i)
  · rw [if_pos (show fQ_isNoSignPoint i = true from decide_eq_true hi)]
    have e : cPt i x y = 1 := by unfold cPt; rw [if_pos hi]
    exact ⟨_, rfl, fun q => absurd (e.symm.trans q) (by decide), fun _ => rfl⟩
  · rw [if_neg (show ¬ fQ_isNoSignPoint i = true from fun z => hi (of_decide_eq_true z))]
    by_cases hn : (w64 (q_lan (q_lus x 52) 2047)) = 2047 ∨ (w64 (q_lan (q_lus y 52) 2047)) = 2047
    · rw [if_pos (show fQ_isNoNumber x = true ∨ fQ_isNoNumber y = true from hn.imp (fun z => decide_eq_true z) (fun z => decide_eq_true z))]
      have e : cPt i x y = 2 := by unfold cPt; rw [if_neg hi, if_pos hn]
      exact ⟨_, rfl, fun q => absurd (e.symm.trans q) (by decide), fun _ => rfl⟩
    · rw [if_neg (show ¬ (fQ_isNoNumber x = true ∨ fQ_isNoNumber y = true) from fun z => hn (z.imp (fun z => of_decide_eq_true z) (fun z => of_decide_eq_true z)))]
      have b : 0 ≤ w32 i ∧ w32 i < 32 := by omega
      have e : cPt i x y = 0 := by unfold cPt; rw [if_neg hi, if_neg hn]
      unfold wa_
      simp only [if_pos b]
      exact ⟨_, rfl, fun _ => rfl, fun q => absurd e q⟩
theorem eR_pt {σ : SG} {i x y : Int} (hσ : II σ) : wp_ (fR_point σ i x y) (fun r => (cPt i x y = 0 → ∀ c, ¬ c = kR_thrown → r c = sg (sg σ kR_signX (w32 i) x) kR_signY (w32 i) y c) ∧ (¬ cPt i x y = 0 → ∀ c, ¬ c = kR_thrown → r c = σ c)) := by
  unfold fR_point
  refine wp_wfI hσ b_kR_thrown (by decide) (fun σ1 hσ1 e1 => ?_)
  have c1 : ∀ c, ¬ c = kR_thrown → σ1 c = σ c := fun c h => funext fun n => by rw [e1, sg_nc h]
  refine wp_lt (fun x3 e3 => ?_)
  refine wp_fails hσ1 (by rw [e1, sg_at]) (by decide) (fun τ hτ f a b => ?_)
  have c2 : ∀ c, ¬ c = kR_thrown → τ c = σ c := fun c h => (f c (by simpa using h)).trans (c1 c h)
  dsimp only
  refine wp_if (fun c => ?_) (fun c => ?_)
  · have hp : ¬ (0 ≤ w32 i ∧ w32 i < 32) := fun z => of_decide_eq_true c (decide_eq_true z)
    have hi : (w32 i) < 0 ∨ 32 ≤ (w32 i) := by omega
    have e : cPt i x y = 1 := by unfold cPt; rw [if_pos hi]
    exact wp_some ⟨fun q => absurd (e.symm.trans q) (by decide), fun _ => c2⟩
  · have hp : 0 ≤ w32 i ∧ w32 i < 32 := by
      by_cases z : fR_isPoint i = true
      · exact of_decide_eq_true z
      · exact absurd (decide_eq_true z) c
    have hi : ¬ ((w32 i) < 0 ∨ 32 ≤ (w32 i)) := by omega
    refine wp_fails hτ (b c) (by decide) (fun υ hυ f2 a2 b2 => ?_)
    have c3 : ∀ c, ¬ c = kR_thrown → υ c = σ c := fun c h => (f2 c (by simpa using h)).trans (c2 c h)
    dsimp only
    refine wp_if (fun d => ?_) (fun d => ?_)
    · have hn : (w64 (q_lan (q_lus x 52) 2047)) = 2047 ∨ (w64 (q_lan (q_lus y 52) 2047)) = 2047 := by
        rw [e3] at d; exact of_decide_eq_true d
      have e : cPt i x y = 2 := by unfold cPt; rw [if_neg hi, if_pos hn]
      exact wp_some ⟨fun q => absurd (e.symm.trans q) (by decide), fun _ => c3⟩
    · have hn : ¬ ((w64 (q_lan (q_lus x 52) 2047)) = 2047 ∨ (w64 (q_lan (q_lus y 52) 2047)) = 2047) := fun z => d (by rw [e3]; exact decide_eq_true z)
      have e : cPt i x y = 0 := by unfold cPt; rw [if_neg hi, if_neg hn]
      refine wp_wa hp.1 hp.2 (wp_wa hp.1 hp.2 (wp_some ⟨fun _ k hk => funext fun n => ?_, fun q => absurd e q⟩))
      show sg (sg υ kR_signX (w32 i) x) kR_signY (w32 i) y k n = sg (sg σ kR_signX (w32 i) x) kR_signY (w32 i) y k n
      unfold sg
      rw [c3 k hk]
/-- the points set on both sides are the same again -/
theorem PQ_pt {σ τ υ : SG} {i x y : Int} (h : PSq σ) (l0 : cPt i x y = 0 → τ = sg (sg σ kI_x (w32 i) x) kI_y (w32 i) y) (l1 : ¬ cPt i x y = 0 → τ = σ) (r0 : cPt i x y = 0 → ∀ c, ¬ c = kR_thrown → υ c = sg (sg τ kR_signX (w32 i) x) kR_signY (w32 i) y c) (r1 : ¬ cPt i x y = 0 → ∀ c, ¬ c = kR_thrown → υ c = τ c) : PSq υ := by
  intro n n0 n1
  obtain ⟨h1, h2⟩ := h n n0 n1
  by_cases c : cPt i x y = 0
  · have e := l0 c
    have f := r0 c
    rw [f kI_x (by decide), f kI_y (by decide), f kR_signX (by decide), f kR_signY (by decide), e]
    by_cases q : n = w32 i
    · subst q
      constructor
      · rw [sg_nc (by decide), sg_nc (by decide), sg_nc (by decide), sg_at, sg_nc (by decide), sg_at]
      · rw [sg_nc (by decide), sg_nc (by decide), sg_at, sg_at]
    · constructor
      · rw [sg_ni q, sg_ni q, sg_ni q, sg_ni q, sg_ni q, sg_ni q, sg_ni q, sg_ni q]; exact h1
      · rw [sg_ni q, sg_ni q, sg_ni q, sg_ni q, sg_ni q, sg_ni q, sg_ni q, sg_ni q]; exact h2
  · have e := l1 c
    have f := r1 c
    rw [f kI_x (by decide), f kI_y (by decide), f kR_signX (by decide), f kR_signY (by decide), e]
    exact ⟨h1, h2⟩
end PQS
