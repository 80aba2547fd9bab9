section EQP
/-- what a new point for the signs answers -/
noncomputable def cPt (i x y : Int) : Int := if (w32 i) < 0 ∨ 32 ≤ (w32 i) then 1 else if (w64 (q_lan (q_lus x 52) 2047)) = 2047 ∨ (w64 (q_lan (q_lus y 52) 2047)) = 2047 then 2 else 0
theorem eL_point {σ : SG} {i x y : Int} : wp_ (fL_point σ i x y) (fun r => r.1 = cPt i x y) := by
  unfold fL_point fQ_point
  by_cases hi : (w32 i) < 0 ∨ 32 ≤ (w32 i)
  · rw [if_pos (show fQ_isNoSignPoint i = true from decide_eq_true hi)]
    exact ⟨_, rfl, (by unfold cPt; rw [if_pos hi])⟩
  · rw [if_neg (show ¬ fQ_isNoSignPoint i = true from fun z => hi (of_decide_eq_true z))]
    by_cases hn : (w64 (q_lan (q_lus x 52) 2047)) = 2047 ∨ (w64 (q_lan (q_lus y 52) 2047)) = 2047
    · rw [if_pos (show fQ_isNoNumber x = true ∨ fQ_isNoNumber y = true from hn.imp (fun z => decide_eq_true z) (fun z => decide_eq_true z))]
      exact ⟨_, rfl, (by unfold cPt; rw [if_neg hi, if_pos hn])⟩
    · rw [if_neg (show ¬ (fQ_isNoNumber x = true ∨ fQ_isNoNumber y = true) from fun z => hn (z.imp (fun z => of_decide_eq_true z) (fun z => of_decide_eq_true z)))]
      have b : 0 ≤ w32 i ∧ w32 i < 32 := by omega
      unfold wa_
      simp only [if_pos b]
      exact ⟨_, rfl, (by unfold cPt; rw [if_neg hi, if_neg hn])⟩
theorem eR_point {σ : SG} {i x y : Int} (hσ : II σ) : wp_ (fR_point σ i x y) (fun r => fR_thrown r = cPt i x y) := by
  unfold fR_point
  refine wp_wfI hσ b_kR_thrown (by decide) (fun σ1 hσ1 e1 => ?_)
  refine wp_lt (fun x3 e3 => ?_)
  refine wp_fails hσ1 (by rw [e1, sg_at]) (by decide) (fun τ hτ f a b => ?_)
  dsimp only
  refine wp_if (fun c => ?_) (fun c => ?_)
  · have hp : ¬ (0 ≤ w32 i ∧ w32 i < 32) := fun z => of_decide_eq_true c (decide_eq_true z)
    have hi : (w32 i) < 0 ∨ 32 ≤ (w32 i) := by omega
    refine wp_some ?_
    show τ kR_thrown 0 = _
    rw [a c]
    unfold cPt; rw [if_pos hi]
  · have hp : 0 ≤ w32 i ∧ w32 i < 32 := by
      by_cases z : fR_isPoint i = true
      · exact of_decide_eq_true z
      · exact absurd (decide_eq_true z) c
    have hi : ¬ ((w32 i) < 0 ∨ 32 ≤ (w32 i)) := by omega
    refine wp_fails hτ (b c) (by decide) (fun υ hυ f2 a2 b2 => ?_)
    dsimp only
    refine wp_if (fun d => ?_) (fun d => ?_)
    · have hn : (w64 (q_lan (q_lus x 52) 2047)) = 2047 ∨ (w64 (q_lan (q_lus y 52) 2047)) = 2047 := by
        rw [e3] at d; exact of_decide_eq_true d
      refine wp_some ?_
      show υ kR_thrown 0 = _
      rw [a2 d]
      unfold cPt; rw [if_neg hi, if_pos hn]
    · have hn : ¬ ((w64 (q_lan (q_lus x 52) 2047)) = 2047 ∨ (w64 (q_lan (q_lus y 52) 2047)) = 2047) := fun z => d (by rw [e3]; exact decide_eq_true z)
      refine wp_wa hp.1 hp.2 (wp_wa hp.1 hp.2 (wp_some ?_))
      show sg (sg υ kR_signX (w32 i) x) kR_signY (w32 i) y kR_thrown 0 = _
      rw [sg_nc (by decide), sg_nc (by decide), b2 d]
      unfold cPt; rw [if_neg hi, if_neg hn]
end EQP
