theorem p_L_compare {x_0 : Int} {y_0 : Int} : (-1) ≤ fL_compare x_0 y_0 ∧ fL_compare x_0 y_0 ≤ 1 := by
  unfold fL_compare
  repeat' split
  all_goals first | omega | decide
theorem p_Q_turnOf {ax_0 : Int} {ay_0 : Int} {bx_0 : Int} {by_0 : Int} {cx_0 : Int} {cy_0 : Int} : (-1) ≤ fQ_turnOf ax_0 ay_0 bx_0 by_0 cx_0 cy_0 ∧ fQ_turnOf ax_0 ay_0 bx_0 by_0 cx_0 cy_0 ≤ 1 := by
  unfold fQ_turnOf
  repeat' split
  all_goals first | omega | decide | exact p_L_compare
theorem p_Q_carryOf {sum_0 : Int} {added_0 : Int} : 0 ≤ fQ_carryOf sum_0 added_0 ∧ fQ_carryOf sum_0 added_0 ≤ 1 := by
  unfold fQ_carryOf
  repeat' split
  all_goals first | omega | decide
theorem p_Q_signOfSum {a_0 : Int} {b_0 : Int} {c_0 : Int} {d_0 : Int} {e_0 : Int} {f_0 : Int} : (-1) ≤ fQ_signOfSum a_0 b_0 c_0 d_0 e_0 f_0 ∧ fQ_signOfSum a_0 b_0 c_0 d_0 e_0 f_0 ≤ 1 := by
  unfold fQ_signOfSum
  repeat' split
  all_goals first | omega | decide | exact p_L_compare | exact p_Q_carryOf
theorem p_R_signOf {v_0 : Int} : (-1) ≤ fR_signOf v_0 ∧ fR_signOf v_0 ≤ 1 := by
  unfold fR_signOf
  repeat' split
  all_goals first | omega | decide
theorem p_R_turn {ax_0 : Int} {ay_0 : Int} {bx_0 : Int} {by_0 : Int} {cx_0 : Int} {cy_0 : Int} : (-1) ≤ fR_turn ax_0 ay_0 bx_0 by_0 cx_0 cy_0 ∧ fR_turn ax_0 ay_0 bx_0 by_0 cx_0 cy_0 ≤ 1 := by
  unfold fR_turn
  repeat' split
  all_goals first | omega | decide | exact p_R_signOf
theorem s_Q_layOnTape {σ : SG} {four_0 : Int} (hσ : II σ) (qfour_0 : (-2147483648) ≤ four_0 ∧ four_0 ≤ 2147483647) : wp_ (fQ_layOnTape σ four_0) (fun r => II r ∧ FR [kQ_tape, kQ_tapeSize] σ r) := by
  unfold fQ_layOnTape
  refine wp_bd (P := fun r => ((-8) ≤ r.1 ∧ r.1 ≤ 24) ∧ II r.2 ∧ FR [kQ_tape, kQ_tapeSize] σ r.2) ?_ ?_
  · refine wp_whl (fun s => ((-8) ≤ s.1 ∧ s.1 ≤ 24) ∧ II s.2 ∧ FR [kQ_tape, kQ_tapeSize] σ s.2) (fun s => (s.1 - (-16)).toNat) ⟨(by (try dsimp only) <;> first | omega | ((try simp (disch := omega) only [w32_of, w64_of, w8_of]) <;> first | omega | (split <;> omega) | (refine And.intro ?_ ?_ <;> split <;> omega))), hσ, (FR_refl _ _)⟩ ?_
    rintro ⟨shift_1, σ_2⟩ y3
    dsimp only at y3 ⊢
    obtain ⟨g1, hσ_2, f2⟩ := y3
    have c5 := w32_rng shift_1
    have c6 := ii_kQ_tapeSize hσ_2 0
    have c7 := w32_rng (σ_2 kQ_tapeSize 0)
    refine wp_if (fun h4 => ?_) (fun h4 => ?_)
    · try simp (disch := omega) only [w32_of, w64_of, w8_of, decide_eq_true_eq, decide_eq_false_iff_not] at h4
      have c8 := q_ius_rng four_0 shift_1
      have c9 := w8_rng (q_ius four_0 shift_1)
      refine wp_waI hσ_2 b_kQ_tape (by (try dsimp only) <;> first | omega | ((try simp (disch := omega) only [w32_of, w64_of, w8_of]) <;> first | omega | (split <;> omega) | (refine And.intro ?_ ?_ <;> split <;> omega))) (by (try dsimp only) <;> first | omega | ((try simp (disch := omega) only [w32_of, w64_of, w8_of]) <;> first | omega | (split <;> omega) | (refine And.intro ?_ ?_ <;> split <;> omega))) (by (try dsimp only) <;> first | omega | ((try simp (disch := omega) only [w32_of, w64_of, w8_of]) <;> first | omega | (split <;> omega) | (refine And.intro ?_ ?_ <;> split <;> omega))) (fun σ_10 hσ_10 e10 => ?_)
      have f11 := FR_sg e10
      have c12 := ii_kQ_tapeSize hσ_10 0
      have c13 := FR_at f11 (c := kQ_tapeSize) (by decide) 0
      refine wp_wfI hσ_10 b_kQ_tapeSize (by (try dsimp only) <;> first | omega | ((try simp (disch := omega) only [w32_of, w64_of, w8_of]) <;> first | omega | (split <;> omega) | (refine And.intro ?_ ?_ <;> split <;> omega))) (fun σ_12 hσ_12 e14 => ?_)
      have f15 := FR_sg e14
      exact wp_some ⟨fun _ e => by cases e; exact ⟨⟨(by (try dsimp only) <;> first | omega | ((try simp (disch := omega) only [w32_of, w64_of, w8_of]) <;> first | omega | (split <;> omega) | (refine And.intro ?_ ?_ <;> split <;> omega))), hσ_12, (FR_tr (ms := [kQ_tape, kQ_tapeSize]) (FR_tr (ms := [kQ_tape, kQ_tapeSize]) (FR_le (ms := [kQ_tape, kQ_tapeSize]) f2 (by decide)) f11 (by decide) (by decide)) f15 (by decide) (by decide))⟩, by (try dsimp only) <;> first | omega | ((try simp (disch := omega) only [w32_of, w64_of, w8_of]) <;> first | omega | (split <;> omega) | (refine And.intro ?_ ?_ <;> split <;> omega))⟩, fun _ e => (by cases e)⟩
    · try simp (disch := omega) only [w32_of, w64_of, w8_of, decide_eq_true_eq, decide_eq_false_iff_not] at h4
      exact wp_some ⟨fun _ e => (by cases e), fun _ e => by cases e; exact ⟨(by (try dsimp only) <;> first | omega | ((try simp (disch := omega) only [w32_of, w64_of, w8_of]) <;> first | omega | (split <;> omega) | (refine And.intro ?_ ?_ <;> split <;> omega))), hσ_2, (FR_le (ms := [kQ_tape, kQ_tapeSize]) f2 (by decide))⟩⟩
  rintro ⟨shift_22, σ_23⟩ _ y18
  dsimp only at y18 ⊢
  obtain ⟨g16, hσ_23, f17⟩ := y18
  exact wp_some ⟨hσ_23, (FR_le (ms := [kQ_tape, kQ_tapeSize]) f17 (by decide))⟩
theorem s_Q_feed {σ : SG} {a_0 : Int} {b_0 : Int} {c_0 : Int} {d_0 : Int} {e_0 : Int} (hσ : II σ) (qa_0 : (-2147483648) ≤ a_0 ∧ a_0 ≤ 2147483647) (qb_0 : (-2147483648) ≤ b_0 ∧ b_0 ≤ 2147483647) (qc_0 : (-2147483648) ≤ c_0 ∧ c_0 ≤ 2147483647) (qd_0 : (-2147483648) ≤ d_0 ∧ d_0 ≤ 2147483647) (qe_0 : (-2147483648) ≤ e_0 ∧ e_0 ≤ 2147483647) : wp_ (fQ_feed σ a_0 b_0 c_0 d_0 e_0) (fun r => (∀ v, r.1 = .inl v → 0 ≤ v ∧ v ≤ 65536) ∧ (∀ e : Nat, r.1 = .inr e → 1 ≤ e ∧ e ≤ 1) ∧ II r.2 ∧ FR [kQ_tape, kQ_tapeSize] σ r.2) := by
  unfold fQ_feed
  have c2 := ii_kQ_tapeSize hσ 0
  have c3 := w32_rng (σ kQ_tapeSize 0)
  refine wp_if (fun h1 => ?_) (fun h1 => ?_)
  · try simp (disch := omega) only [w32_of, w64_of, w8_of, decide_eq_true_eq, decide_eq_false_iff_not] at h1
    exact wp_some ⟨(fun _ e => (by cases e)), (fun _ e => by cases e; exact (by (try dsimp only) <;> first | omega | ((try simp (disch := omega) only [w32_of, w64_of, w8_of]) <;> first | omega | (split <;> omega) | (refine And.intro ?_ ?_ <;> split <;> omega)))), hσ, (FR_refl _ _)⟩
  · try simp (disch := omega) only [w32_of, w64_of, w8_of, decide_eq_true_eq, decide_eq_false_iff_not] at h1
    refine wp_bd (s_Q_layOnTape (σ := σ) (four_0 := a_0) hσ (by (try dsimp only) <;> first | omega | ((try simp (disch := omega) only [w32_of, w64_of, w8_of]) <;> first | omega | (split <;> omega) | (refine And.intro ?_ ?_ <;> split <;> omega)))) ?_
    rintro σ_3 _ ⟨hσ_3, f4⟩
    refine wp_bd (s_Q_layOnTape (σ := σ_3) (four_0 := b_0) hσ_3 (by (try dsimp only) <;> first | omega | ((try simp (disch := omega) only [w32_of, w64_of, w8_of]) <;> first | omega | (split <;> omega) | (refine And.intro ?_ ?_ <;> split <;> omega)))) ?_
    rintro σ_5 _ ⟨hσ_5, f5⟩
    refine wp_bd (s_Q_layOnTape (σ := σ_5) (four_0 := c_0) hσ_5 (by (try dsimp only) <;> first | omega | ((try simp (disch := omega) only [w32_of, w64_of, w8_of]) <;> first | omega | (split <;> omega) | (refine And.intro ?_ ?_ <;> split <;> omega)))) ?_
    rintro σ_7 _ ⟨hσ_7, f6⟩
    refine wp_bd (s_Q_layOnTape (σ := σ_7) (four_0 := d_0) hσ_7 (by (try dsimp only) <;> first | omega | ((try simp (disch := omega) only [w32_of, w64_of, w8_of]) <;> first | omega | (split <;> omega) | (refine And.intro ?_ ?_ <;> split <;> omega)))) ?_
    rintro σ_9 _ ⟨hσ_9, f7⟩
    refine wp_bd (s_Q_layOnTape (σ := σ_9) (four_0 := e_0) hσ_9 (by (try dsimp only) <;> first | omega | ((try simp (disch := omega) only [w32_of, w64_of, w8_of]) <;> first | omega | (split <;> omega) | (refine And.intro ?_ ?_ <;> split <;> omega)))) ?_
    rintro σ_11 _ ⟨hσ_11, f8⟩
    have c9 := ii_kQ_tapeSize hσ_11 0
    exact wp_some ⟨(fun _ e => by cases e; exact (by (try dsimp only) <;> first | omega | ((try simp (disch := omega) only [w32_of, w64_of, w8_of]) <;> first | omega | (split <;> omega) | (refine And.intro ?_ ?_ <;> split <;> omega)))), (fun _ e => (by cases e)), hσ_11, (FR_tr (ms := [kQ_tape, kQ_tapeSize]) (FR_tr (ms := [kQ_tape, kQ_tapeSize]) (FR_tr (ms := [kQ_tape, kQ_tapeSize]) (FR_tr (ms := [kQ_tape, kQ_tapeSize]) (FR_le (ms := [kQ_tape, kQ_tapeSize]) f4 (by decide)) f5 (by decide) (by decide)) f6 (by decide) (by decide)) f7 (by decide) (by decide)) f8 (by decide) (by decide))⟩
theorem s_Q_end {σ : SG} {n_0 : Int} (hσ : II σ) (qn_0 : (-2147483648) ≤ n_0 ∧ n_0 ≤ 2147483647) : wp_ (fQ_end σ n_0) (fun r => (∀ v, r.1 = .inl v → 0 ≤ v ∧ v ≤ 65536) ∧ (∀ e : Nat, r.1 = .inr e → 1 ≤ e ∧ e ≤ 2) ∧ II r.2 ∧ FR [kQ_tapeSize] σ r.2) := by
  unfold fQ_end
  have c2 := w32_rng n_0
  refine wp_if (fun h1 => ?_) (fun h1 => ?_)
  · try simp (disch := omega) only [w32_of, w64_of, w8_of, decide_eq_true_eq, decide_eq_false_iff_not] at h1
    exact wp_some ⟨(fun _ e => (by cases e)), (fun _ e => by cases e; exact (by (try dsimp only) <;> first | omega | ((try simp (disch := omega) only [w32_of, w64_of, w8_of]) <;> first | omega | (split <;> omega) | (refine And.intro ?_ ?_ <;> split <;> omega)))), hσ, (FR_refl _ _)⟩
  · try simp (disch := omega) only [w32_of, w64_of, w8_of, decide_eq_true_eq, decide_eq_false_iff_not] at h1
    have c4 := ii_kQ_tapeSize hσ 0
    have c5 := w32_rng (σ kQ_tapeSize 0)
    refine wp_if (fun h3 => ?_) (fun h3 => ?_)
    · try simp (disch := omega) only [w32_of, w64_of, w8_of, decide_eq_true_eq, decide_eq_false_iff_not] at h3
      exact wp_some ⟨(fun _ e => (by cases e)), (fun _ e => by cases e; exact (by (try dsimp only) <;> first | omega | ((try simp (disch := omega) only [w32_of, w64_of, w8_of]) <;> first | omega | (split <;> omega) | (refine And.intro ?_ ?_ <;> split <;> omega)))), hσ, (FR_refl _ _)⟩
    · try simp (disch := omega) only [w32_of, w64_of, w8_of, decide_eq_true_eq, decide_eq_false_iff_not] at h3
      refine wp_wfI hσ b_kQ_tapeSize (by (try dsimp only) <;> first | omega | ((try simp (disch := omega) only [w32_of, w64_of, w8_of]) <;> first | omega | (split <;> omega) | (refine And.intro ?_ ?_ <;> split <;> omega))) (fun σ_2 hσ_2 e6 => ?_)
      have f7 := FR_sg e6
      have c8 := ii_kQ_tapeSize hσ_2 0
      have c9 := sg_val e6
      exact wp_some ⟨(fun _ e => by cases e; exact (by (try dsimp only) <;> first | omega | ((try simp (disch := omega) only [w32_of, w64_of, w8_of]) <;> first | omega | (split <;> omega) | (refine And.intro ?_ ?_ <;> split <;> omega)))), (fun _ e => (by cases e)), hσ_2, (FR_le (ms := [kQ_tapeSize]) f7 (by decide))⟩
theorem s_Q_byteAt {σ : SG} {i_0 : Int} (hσ : II σ) (qi_0 : (-2147483648) ≤ i_0 ∧ i_0 ≤ 2147483647) : wp_ (fQ_byteAt σ i_0) (fun r => (∀ v, r.1 = .inl v → 0 ≤ v ∧ v ≤ 255) ∧ (∀ e : Nat, r.1 = .inr e → 0 ≤ e ∧ e ≤ 0) ∧ II r.2 ∧ FR [] σ r.2) := by
  unfold fQ_byteAt
  have c2 := w32_rng i_0
  have c3 := ii_kO_size hσ 0
  have c4 := w32_rng (σ kO_size 0)
  refine wp_if (fun h1 => ?_) (fun h1 => ?_)
  · try simp (disch := omega) only [w32_of, w64_of, w8_of, decide_eq_true_eq, decide_eq_false_iff_not] at h1
    exact wp_some ⟨(fun _ e => (by cases e)), (fun _ e => by cases e; exact (by (try dsimp only) <;> first | omega | ((try simp (disch := omega) only [w32_of, w64_of, w8_of]) <;> first | omega | (split <;> omega) | (refine And.intro ?_ ?_ <;> split <;> omega)))), hσ, (FR_refl _ _)⟩
  · try simp (disch := omega) only [w32_of, w64_of, w8_of, decide_eq_true_eq, decide_eq_false_iff_not] at h1
    refine wp_rdI (by (try dsimp only) <;> first | omega | ((try simp (disch := omega) only [w32_of, w64_of, w8_of]) <;> first | omega | (split <;> omega) | (refine And.intro ?_ ?_ <;> split <;> omega))) (by (try dsimp only) <;> first | omega | ((try simp (disch := omega) only [w32_of, w64_of, w8_of]) <;> first | omega | (split <;> omega) | (refine And.intro ?_ ?_ <;> split <;> omega))) (fun x_1 e5 => ?_)
    have b6 : (-128) ≤ x_1 ∧ x_1 ≤ 127 := by rw [e5]; exact ii_kO_row hσ _
    have c7 := w8_rng x_1
    have c8 := q_ian_bd (w8 x_1) (m := 255) (by decide) (by decide)
    try simp (disch := omega) only [w32_of, w64_of, w8_of] at c8
    exact wp_some ⟨(fun _ e => by cases e; exact (by (try dsimp only) <;> first | omega | ((try simp (disch := omega) only [w32_of, w64_of, w8_of]) <;> first | omega | (split <;> omega) | (refine And.intro ?_ ?_ <;> split <;> omega)))), (fun _ e => (by cases e)), hσ, (FR_refl _ _)⟩
theorem s_W_fail {σ : SG} {code_0 : Int} (hσ : II σ) (qcode_0 : 1 ≤ code_0 ∧ code_0 ≤ 8) : wp_ (fW_fail σ code_0) (fun r => True ∧ II r.2 ∧ FR [kW_place, kW_wrong] σ r.2) := by
  unfold fW_fail
  refine wp_wfI hσ b_kW_wrong (by (try dsimp only) <;> first | omega | ((try simp (disch := omega) only [w32_of, w64_of, w8_of]) <;> first | omega | (split <;> omega) | (refine And.intro ?_ ?_ <;> split <;> omega))) (fun σ_1 hσ_1 e1 => ?_)
  have f2 := FR_sg e1
  have c3 := ii_kW_at hσ_1 0
  have c4 := FR_at f2 (c := kW_at) (by decide) 0
  have c5 := ii_kW_at hσ 0
  refine wp_wfI hσ_1 b_kW_place (by (try dsimp only) <;> first | omega | ((try simp (disch := omega) only [w32_of, w64_of, w8_of]) <;> first | omega | (split <;> omega) | (refine And.intro ?_ ?_ <;> split <;> omega))) (fun σ_2 hσ_2 e6 => ?_)
  have f7 := FR_sg e6
  exact wp_some ⟨True.intro, hσ_2, (FR_tr (ms := [kW_place, kW_wrong]) (FR_le (ms := [kW_place, kW_wrong]) f2 (by decide)) f7 (by decide) (by decide))⟩
theorem s_W_behindWord {σ : SG} (hσ : II σ) : wp_ (fW_behindWord σ) (fun r => (0 ≤ r ∧ r ≤ 65536)) := by
  unfold fW_behindWord
  refine wp_bd (P := fun r => (0 ≤ r ∧ r ≤ 65536)) ?_ ?_
  · have c1 := ii_kW_at hσ 0
    refine wp_whl (fun s => (0 ≤ s ∧ s ≤ 65536)) (fun s => (65537 - s).toNat) (by (try dsimp only) <;> first | omega | ((try simp (disch := omega) only [w32_of, w64_of, w8_of]) <;> first | omega | (split <;> omega) | (refine And.intro ?_ ?_ <;> split <;> omega))) ?_
    rintro i_1 g2
    have c4 := w32_rng i_1
    have c5 := ii_kW_length hσ 0
    have c6 := w32_rng (σ kW_length 0)
    refine wp_if (fun h3 => ?_) (fun h3 => ?_)
    · try simp (disch := omega) only [w32_of, w64_of, w8_of, decide_eq_true_eq, decide_eq_false_iff_not] at h3
      refine wp_rdI (by (try dsimp only) <;> first | omega | ((try simp (disch := omega) only [w32_of, w64_of, w8_of]) <;> first | omega | (split <;> omega) | (refine And.intro ?_ ?_ <;> split <;> omega))) (by (try dsimp only) <;> first | omega | ((try simp (disch := omega) only [w32_of, w64_of, w8_of]) <;> first | omega | (split <;> omega) | (refine And.intro ?_ ?_ <;> split <;> omega))) (fun x_18 e7 => ?_)
      have b8 : (-128) ≤ x_18 ∧ x_18 ≤ 127 := by rw [e7]; exact ii_kQ_tape hσ _
      have c10 := w8_rng x_18
      refine wp_if (fun h9 => ?_) (fun h9 => ?_)
      · try simp (disch := omega) only [w32_of, w64_of, w8_of, decide_eq_true_eq, decide_eq_false_iff_not, fW_isLetter] at h9
        exact wp_some ⟨fun _ e => by cases e; exact ⟨(by (try dsimp only) <;> first | omega | ((try simp (disch := omega) only [w32_of, w64_of, w8_of]) <;> first | omega | (split <;> omega) | (refine And.intro ?_ ?_ <;> split <;> omega))), by (try dsimp only) <;> first | omega | ((try simp (disch := omega) only [w32_of, w64_of, w8_of]) <;> first | omega | (split <;> omega) | (refine And.intro ?_ ?_ <;> split <;> omega))⟩, fun _ e => (by cases e)⟩
      · try simp (disch := omega) only [w32_of, w64_of, w8_of, decide_eq_true_eq, decide_eq_false_iff_not, fW_isLetter] at h9
        exact wp_some ⟨fun _ e => (by cases e), fun _ e => by cases e; exact (by (try dsimp only) <;> first | omega | ((try simp (disch := omega) only [w32_of, w64_of, w8_of]) <;> first | omega | (split <;> omega) | (refine And.intro ?_ ?_ <;> split <;> omega)))⟩
    · try simp (disch := omega) only [w32_of, w64_of, w8_of, decide_eq_true_eq, decide_eq_false_iff_not] at h3
      exact wp_some ⟨fun _ e => (by cases e), fun _ e => by cases e; exact (by (try dsimp only) <;> first | omega | ((try simp (disch := omega) only [w32_of, w64_of, w8_of]) <;> first | omega | (split <;> omega) | (refine And.intro ?_ ?_ <;> split <;> omega)))⟩
  rintro i_24 _ g11
  exact wp_some (by (try dsimp only) <;> first | omega | ((try simp (disch := omega) only [w32_of, w64_of, w8_of]) <;> first | omega | (split <;> omega) | (refine And.intro ?_ ?_ <;> split <;> omega)))
theorem s_Q_slotNumbered {σ : SG} {slot_0 : Int} (hσ : II σ) (qslot_0 : (-2147483648) ≤ slot_0 ∧ slot_0 ≤ 2147483647) : wp_ (fQ_slotNumbered σ slot_0) (fun r => (∀ v, r.1 = .inl v → 34 ≤ v ∧ v ≤ 158) ∧ (∀ e : Nat, r.1 = .inr e → 0 ≤ e ∧ e ≤ 0) ∧ II r.2 ∧ FR [] σ r.2) := by
  unfold fQ_slotNumbered
  have c2 := w32_rng slot_0
  refine wp_if (fun h1 => ?_) (fun h1 => ?_)
  · try simp (disch := omega) only [w32_of, w64_of, w8_of, decide_eq_true_eq, decide_eq_false_iff_not] at h1
    exact wp_some ⟨(fun _ e => (by cases e)), (fun _ e => by cases e; exact (by (try dsimp only) <;> first | omega | ((try simp (disch := omega) only [w32_of, w64_of, w8_of]) <;> first | omega | (split <;> omega) | (refine And.intro ?_ ?_ <;> split <;> omega)))), hσ, (FR_refl _ _)⟩
  · try simp (disch := omega) only [w32_of, w64_of, w8_of, decide_eq_true_eq, decide_eq_false_iff_not] at h1
    refine wp_ck (by (try dsimp only) <;> first | omega | ((try simp (disch := omega) only [w32_of, w64_of, w8_of]) <;> first | omega | (split <;> omega) | (refine And.intro ?_ ?_ <;> split <;> omega))) ?_
    exact wp_some ⟨(fun _ e => by cases e; exact (by (try dsimp only) <;> first | omega | ((try simp (disch := omega) only [w32_of, w64_of, w8_of]) <;> first | omega | (split <;> omega) | (refine And.intro ?_ ?_ <;> split <;> omega)))), (fun _ e => (by cases e)), hσ, (FR_refl _ _)⟩
theorem s_B_fail {σ : SG} {code_0 : Int} (hσ : II σ) (qcode_0 : 1 ≤ code_0 ∧ code_0 ≤ 9) : wp_ (fB_fail σ code_0) (fun r => True ∧ II r.2 ∧ FR [kB_place, kB_wrong] σ r.2) := by
  unfold fB_fail
  refine wp_wfI hσ b_kB_wrong (by (try dsimp only) <;> first | omega | ((try simp (disch := omega) only [w32_of, w64_of, w8_of]) <;> first | omega | (split <;> omega) | (refine And.intro ?_ ?_ <;> split <;> omega))) (fun σ_1 hσ_1 e1 => ?_)
  have f2 := FR_sg e1
  have c3 := ii_kB_at hσ_1 0
  have c4 := FR_at f2 (c := kB_at) (by decide) 0
  have c5 := ii_kB_at hσ 0
  refine wp_wfI hσ_1 b_kB_place (by (try dsimp only) <;> first | omega | ((try simp (disch := omega) only [w32_of, w64_of, w8_of]) <;> first | omega | (split <;> omega) | (refine And.intro ?_ ?_ <;> split <;> omega))) (fun σ_2 hσ_2 e6 => ?_)
  have f7 := FR_sg e6
  exact wp_some ⟨True.intro, hσ_2, (FR_tr (ms := [kB_place, kB_wrong]) (FR_le (ms := [kB_place, kB_wrong]) f2 (by decide)) f7 (by decide) (by decide))⟩
theorem s_B_numberAt {σ : SG} {from_0 : Int} {bytes_0 : Int} (hσ : II σ) (qfrom_0 : 0 ≤ from_0 ∧ from_0 ≤ 65532) (qbytes_0 : 4 ≤ bytes_0 ∧ bytes_0 ≤ 8) : wp_ (fB_numberAt σ from_0 bytes_0) (fun r => ((-9223372036854775808) ≤ r ∧ r ≤ 9223372036854775807)) := by
  unfold fB_numberAt
  refine wp_bd (P := fun r => ((-9223372036854775808) ≤ r.1 ∧ r.1 ≤ 9223372036854775807) ∧ (4 ≤ r.2 ∧ r.2 ≤ 8)) ?_ ?_
  · refine wp_whl (fun s => ((-9223372036854775808) ≤ s.1 ∧ s.1 ≤ 9223372036854775807) ∧ (0 ≤ s.2 ∧ s.2 ≤ 8)) (fun s => (9 - s.2).toNat) ⟨(by (try dsimp only) <;> first | omega | ((try simp (disch := omega) only [w32_of, w64_of, w8_of]) <;> first | omega | (split <;> omega) | (refine And.intro ?_ ?_ <;> split <;> omega))), (by (try dsimp only) <;> first | omega | ((try simp (disch := omega) only [w32_of, w64_of, w8_of]) <;> first | omega | (split <;> omega) | (refine And.intro ?_ ?_ <;> split <;> omega)))⟩ ?_
    rintro ⟨value_1, i_2⟩ y3
    dsimp only at y3 ⊢
    obtain ⟨g1, g2⟩ := y3
    have c5 := w32_rng i_2
    have c6 := w32_rng bytes_0
    refine wp_if (fun h4 => ?_) (fun h4 => ?_)
    · try simp (disch := omega) only [w32_of, w64_of, w8_of, decide_eq_true_eq, decide_eq_false_iff_not] at h4
      have c8 := ii_kB_lowFirst hσ 0
      refine wp_lt (fun x_12 e7 => ?_)
      refine wp_bd (P := fun r => (0 ≤ r ∧ r ≤ 255)) ?_ ?_
      · have c10 := w32_rng x_12
        have c11 := ii_kB_length hσ 0
        have c12 := w32_rng (σ kB_length 0)
        refine wp_if (fun h9 => ?_) (fun h9 => ?_)
        · try simp (disch := omega) only [w32_of, w64_of, w8_of, decide_eq_true_eq, decide_eq_false_iff_not] at h9
          refine wp_rdI (by (try dsimp only) <;> first | omega | ((try simp (disch := omega) only [w32_of, w64_of, w8_of]) <;> first | omega | (split <;> omega) | (refine And.intro ?_ ?_ <;> split <;> omega))) (by (try dsimp only) <;> first | omega | ((try simp (disch := omega) only [w32_of, w64_of, w8_of]) <;> first | omega | (split <;> omega) | (refine And.intro ?_ ?_ <;> split <;> omega))) (fun x_15 e13 => ?_)
          have b14 : (-128) ≤ x_15 ∧ x_15 ≤ 127 := by rw [e13]; exact ii_kQ_tape hσ _
          have c15 := w8_rng x_15
          have c16 := q_ian_bd (w8 x_15) (m := 255) (by decide) (by decide)
          try simp (disch := omega) only [w32_of, w64_of, w8_of] at c16
          exact wp_some (by (try dsimp only) <;> first | omega | ((try simp (disch := omega) only [w32_of, w64_of, w8_of]) <;> first | omega | (split <;> omega) | (refine And.intro ?_ ?_ <;> split <;> omega)))
        · try simp (disch := omega) only [w32_of, w64_of, w8_of, decide_eq_true_eq, decide_eq_false_iff_not] at h9
          exact wp_some (by (try dsimp only) <;> first | omega | ((try simp (disch := omega) only [w32_of, w64_of, w8_of]) <;> first | omega | (split <;> omega) | (refine And.intro ?_ ?_ <;> split <;> omega)))
      rintro x_26 _ g17
      have c18 := q_lsl_rng value_1 8
      have c19 := w32_rng x_26
      have c20 := q_lor_rng (q_lsl value_1 8) (w32 x_26)
      exact wp_some ⟨fun _ e => by cases e; exact ⟨⟨(by (try dsimp only) <;> first | omega | ((try simp (disch := omega) only [w32_of, w64_of, w8_of]) <;> first | omega | (split <;> omega) | (refine And.intro ?_ ?_ <;> split <;> omega))), (by (try dsimp only) <;> first | omega | ((try simp (disch := omega) only [w32_of, w64_of, w8_of]) <;> first | omega | (split <;> omega) | (refine And.intro ?_ ?_ <;> split <;> omega)))⟩, by (try dsimp only) <;> first | omega | ((try simp (disch := omega) only [w32_of, w64_of, w8_of]) <;> first | omega | (split <;> omega) | (refine And.intro ?_ ?_ <;> split <;> omega))⟩, fun _ e => (by cases e)⟩
    · try simp (disch := omega) only [w32_of, w64_of, w8_of, decide_eq_true_eq, decide_eq_false_iff_not] at h4
      exact wp_some ⟨fun _ e => (by cases e), fun _ e => by cases e; exact ⟨(by (try dsimp only) <;> first | omega | ((try simp (disch := omega) only [w32_of, w64_of, w8_of]) <;> first | omega | (split <;> omega) | (refine And.intro ?_ ?_ <;> split <;> omega))), (by (try dsimp only) <;> first | omega | ((try simp (disch := omega) only [w32_of, w64_of, w8_of]) <;> first | omega | (split <;> omega) | (refine And.intro ?_ ?_ <;> split <;> omega)))⟩⟩
  rintro ⟨value_34, i_35⟩ _ y23
  dsimp only at y23 ⊢
  obtain ⟨g21, g22⟩ := y23
  exact wp_some (by (try dsimp only) <;> first | omega | ((try simp (disch := omega) only [w32_of, w64_of, w8_of]) <;> first | omega | (split <;> omega) | (refine And.intro ?_ ?_ <;> split <;> omega)))
theorem s_B_roundedFrom {σ : SG} {power_0 : Int} {fraction_0 : Int} (hσ : II σ) (qpower_0 : 0 ≤ power_0 ∧ power_0 ≤ 2046) (qfraction_0 : 0 ≤ fraction_0 ∧ fraction_0 ≤ 4503599627370495) : wp_ (fB_roundedFrom σ power_0 fraction_0) (fun r => ((-9223372036854775808) ≤ r ∧ r ≤ 9223372036854775808)) := by
  unfold fB_roundedFrom
  have c2 := w32_rng power_0
  refine wp_lt (fun x_2 e1 => ?_)
  have c3 := ii_kB_digits hσ 0
  have c4 := w32_rng (σ kB_digits 0)
  refine wp_ck (by (try dsimp only) <;> first | omega | ((try simp (disch := omega) only [w32_of, w64_of, w8_of]) <;> first | omega | (split <;> omega) | (refine And.intro ?_ ?_ <;> split <;> omega))) ?_
  have c6 := q_mxi_bd power_0 1
  try simp (disch := omega) only [w32_of, w64_of, w8_of] at c6
  have c7 := w32_rng (1075 - (q_mxi power_0 1))
  refine wp_if (fun h5 => ?_) (fun h5 => ?_)
  · try simp (disch := omega) only [w32_of, w64_of, w8_of, decide_eq_true_eq, decide_eq_false_iff_not] at h5
    exact wp_some (by (try dsimp only) <;> first | omega | ((try simp (disch := omega) only [w32_of, w64_of, w8_of]) <;> first | omega | (split <;> omega) | (refine And.intro ?_ ?_ <;> split <;> omega)))
  · try simp (disch := omega) only [w32_of, w64_of, w8_of, decide_eq_true_eq, decide_eq_false_iff_not] at h5
    refine wp_if (fun h8 => ?_) (fun h8 => ?_)
    · try simp (disch := omega) only [w32_of, w64_of, w8_of, decide_eq_true_eq, decide_eq_false_iff_not] at h8
      exact wp_some (by (try dsimp only) <;> first | omega | ((try simp (disch := omega) only [w32_of, w64_of, w8_of]) <;> first | omega | (split <;> omega) | (refine And.intro ?_ ?_ <;> split <;> omega)))
    · try simp (disch := omega) only [w32_of, w64_of, w8_of, decide_eq_true_eq, decide_eq_false_iff_not] at h8
      have c10 := w32_rng (uNit (w32 (σ kB_digits 0)))
      have c11 := q_lus_rng (x_2 * (w32 (uNit (w32 (σ kB_digits 0))))) (1075 - (q_mxi power_0 1))
      refine wp_lt (fun x_6 e9 => ?_)
      have c13 := q_lsl_rng x_6 (1075 - (q_mxi power_0 1))
      refine wp_lt (fun x_7 e12 => ?_)
      have c15 := q_lsl_rng 1 ((1075 - (q_mxi power_0 1)) - 1)
      have c16 := w64_rng (q_lsl 1 ((1075 - (q_mxi power_0 1)) - 1))
      have c17 := w64_rng x_7
      have c18 := q_lan_bd x_6 (m := 1) (by decide) (by decide)
      try simp (disch := omega) only [w32_of, w64_of, w8_of] at c18
      have c19 := w64_rng (q_lan x_6 1)
      refine wp_lt (fun x_9 e14 => ?_)
      exact wp_some (by (try dsimp only) <;> first | omega | ((try simp (disch := omega) only [w32_of, w64_of, w8_of]) <;> first | omega | (split <;> omega) | (refine And.intro ?_ ?_ <;> split <;> omega)))
theorem s_Q_fault {σ : SG} {what_0 : Int} (hσ : II σ) (qwhat_0 : (-2147483648) ≤ what_0 ∧ what_0 ≤ 2147483647) : wp_ (fQ_fault σ what_0) (fun r => (∀ v, r.1 = .inl v → 0 ≤ v ∧ v ≤ 65536) ∧ (∀ e : Nat, r.1 = .inr e → 0 ≤ e ∧ e ≤ 0) ∧ II r.2 ∧ FR [] σ r.2) := by
  unfold fQ_fault
  have c2 := w32_rng what_0
  refine wp_if (fun h1 => ?_) (fun h1 => ?_)
  · try simp (disch := omega) only [w32_of, w64_of, w8_of, decide_eq_true_eq, decide_eq_false_iff_not] at h1
    exact wp_some ⟨(fun _ e => (by cases e)), (fun _ e => by cases e; exact (by (try dsimp only) <;> first | omega | ((try simp (disch := omega) only [w32_of, w64_of, w8_of]) <;> first | omega | (split <;> omega) | (refine And.intro ?_ ?_ <;> split <;> omega)))), hσ, (FR_refl _ _)⟩
  · try simp (disch := omega) only [w32_of, w64_of, w8_of, decide_eq_true_eq, decide_eq_false_iff_not] at h1
    have c3 := ii_kQ_wrong hσ 0
    have c4 := ii_kQ_wrongPlace hσ 0
    exact wp_some ⟨(fun _ e => by cases e; exact (by (try dsimp only) <;> first | omega | ((try simp (disch := omega) only [w32_of, w64_of, w8_of]) <;> first | omega | (split <;> omega) | (refine And.intro ?_ ?_ <;> split <;> omega)))), (fun _ e => (by cases e)), hσ, (FR_refl _ _)⟩
theorem s_O_put {σ : SG} {value_0 : Int} (hσ : II σ) (qvalue_0 : (-9223372036854775808) ≤ value_0 ∧ value_0 ≤ 9223372036854775807) : wp_ (fO_put σ value_0) (fun r => II r ∧ FR [kO_row, kO_size] σ r) := by
  unfold fO_put
  refine wp_bd (P := fun r => II r ∧ FR [kO_row, kO_size] σ r) ?_ ?_
  · have c2 := ii_kO_size hσ 0
    have c3 := w32_rng (σ kO_size 0)
    refine wp_if (fun h1 => ?_) (fun h1 => ?_)
    · try simp (disch := omega) only [w32_of, w64_of, w8_of, decide_eq_true_eq, decide_eq_false_iff_not] at h1
      have c4 := w8_rng value_0
      refine wp_waI hσ b_kO_row (by (try dsimp only) <;> first | omega | ((try simp (disch := omega) only [w32_of, w64_of, w8_of]) <;> first | omega | (split <;> omega) | (refine And.intro ?_ ?_ <;> split <;> omega))) (by (try dsimp only) <;> first | omega | ((try simp (disch := omega) only [w32_of, w64_of, w8_of]) <;> first | omega | (split <;> omega) | (refine And.intro ?_ ?_ <;> split <;> omega))) (by (try dsimp only) <;> first | omega | ((try simp (disch := omega) only [w32_of, w64_of, w8_of]) <;> first | omega | (split <;> omega) | (refine And.intro ?_ ?_ <;> split <;> omega))) (fun σ_6 hσ_6 e5 => ?_)
      have f6 := FR_sg e5
      have c7 := ii_kO_size hσ_6 0
      have c8 := FR_at f6 (c := kO_size) (by decide) 0
      refine wp_wfI hσ_6 b_kO_size (by (try dsimp only) <;> first | omega | ((try simp (disch := omega) only [w32_of, w64_of, w8_of]) <;> first | omega | (split <;> omega) | (refine And.intro ?_ ?_ <;> split <;> omega))) (fun σ_8 hσ_8 e9 => ?_)
      have f10 := FR_sg e9
      exact wp_some ⟨hσ_8, (FR_tr (ms := [kO_row, kO_size]) (FR_le (ms := [kO_row, kO_size]) f6 (by decide)) f10 (by decide) (by decide))⟩
    · try simp (disch := omega) only [w32_of, w64_of, w8_of, decide_eq_true_eq, decide_eq_false_iff_not] at h1
      exact wp_some ⟨hσ, (FR_refl _ _)⟩
  rintro σ_11 _ ⟨hσ_11, f11⟩
  exact wp_some ⟨hσ_11, (FR_le (ms := [kO_row, kO_size]) f11 (by decide))⟩
theorem s_Q_mustBeThere {σ : SG} {shape_0 : Nat} (hσ : II σ) : wp_ (fQ_mustBeThere σ shape_0) (fun r => (∀ e : Nat, r.1 = .inr e → 1 ≤ e ∧ e ≤ 1) ∧ II r.2 ∧ FR [] σ r.2) := by
  unfold fQ_mustBeThere
  refine wp_if (fun h1 => ?_) (fun h1 => ?_)
  · try simp (disch := omega) only [w32_of, w64_of, w8_of, decide_eq_true_eq, decide_eq_false_iff_not, fA_isThere] at h1
    exact wp_some ⟨(fun _ e => (by cases e)), hσ, (FR_refl _ _)⟩
  · try simp (disch := omega) only [w32_of, w64_of, w8_of, decide_eq_true_eq, decide_eq_false_iff_not, fA_isThere] at h1
    exact wp_some ⟨(fun _ e => by cases e; exact (by (try dsimp only) <;> first | omega | ((try simp (disch := omega) only [w32_of, w64_of, w8_of]) <;> first | omega | (split <;> omega) | (refine And.intro ?_ ?_ <;> split <;> omega)))), hσ, (FR_refl _ _)⟩
theorem s_O_putBytes {σ : SG} {value_0 : Int} {bytes_0 : Int} (hσ : II σ) (qbytes_0 : 4 ≤ bytes_0 ∧ bytes_0 ≤ 8) : wp_ (fO_putBytes σ value_0 bytes_0) (fun r => II r ∧ FR [kO_row, kO_size] σ r) := by
  unfold fO_putBytes
  refine wp_bd (P := fun r => (4 ≤ r.1 ∧ r.1 ≤ 8) ∧ II r.2 ∧ FR [kO_row, kO_size] σ r.2) ?_ ?_
  · refine wp_whl (fun s => (0 ≤ s.1 ∧ s.1 ≤ 8) ∧ II s.2 ∧ FR [kO_row, kO_size] σ s.2) (fun s => (9 - s.1).toNat) ⟨(by (try dsimp only) <;> first | omega | ((try simp (disch := omega) only [w32_of, w64_of, w8_of]) <;> first | omega | (split <;> omega) | (refine And.intro ?_ ?_ <;> split <;> omega))), hσ, (FR_refl _ _)⟩ ?_
    rintro ⟨i_1, σ_2⟩ y3
    dsimp only at y3 ⊢
    obtain ⟨g1, hσ_2, f2⟩ := y3
    have c5 := w32_rng i_1
    have c6 := w32_rng bytes_0
    refine wp_if (fun h4 => ?_) (fun h4 => ?_)
    · try simp (disch := omega) only [w32_of, w64_of, w8_of, decide_eq_true_eq, decide_eq_false_iff_not] at h4
      have c8 := ii_kO_lowFirst hσ_2 0
      have c9 := FR_at f2 (c := kO_lowFirst) (by decide) 0
      have c10 := ii_kO_lowFirst hσ 0
      refine wp_lt (fun x_12 e7 => ?_)
      have c11 := q_lus_rng value_0 x_12
      refine wp_bd (s_O_put (σ := σ_2) (value_0 := (q_lus value_0 x_12)) hσ_2 (by (try dsimp only) <;> first | omega | ((try simp (disch := omega) only [w32_of, w64_of, w8_of]) <;> first | omega | (split <;> omega) | (refine And.intro ?_ ?_ <;> split <;> omega)))) ?_
      rintro σ_14 _ ⟨hσ_14, f12⟩
      exact wp_some ⟨fun _ e => by cases e; exact ⟨⟨(by (try dsimp only) <;> first | omega | ((try simp (disch := omega) only [w32_of, w64_of, w8_of]) <;> first | omega | (split <;> omega) | (refine And.intro ?_ ?_ <;> split <;> omega))), hσ_14, (FR_tr (ms := [kO_row, kO_size]) (FR_le (ms := [kO_row, kO_size]) f2 (by decide)) f12 (by decide) (by decide))⟩, by (try dsimp only) <;> first | omega | ((try simp (disch := omega) only [w32_of, w64_of, w8_of]) <;> first | omega | (split <;> omega) | (refine And.intro ?_ ?_ <;> split <;> omega))⟩, fun _ e => (by cases e)⟩
    · try simp (disch := omega) only [w32_of, w64_of, w8_of, decide_eq_true_eq, decide_eq_false_iff_not] at h4
      exact wp_some ⟨fun _ e => (by cases e), fun _ e => by cases e; exact ⟨(by (try dsimp only) <;> first | omega | ((try simp (disch := omega) only [w32_of, w64_of, w8_of]) <;> first | omega | (split <;> omega) | (refine And.intro ?_ ?_ <;> split <;> omega))), hσ_2, (FR_le (ms := [kO_row, kO_size]) f2 (by decide))⟩⟩
  rintro ⟨i_18, σ_19⟩ _ y15
  dsimp only at y15 ⊢
  obtain ⟨g13, hσ_19, f14⟩ := y15
  exact wp_some ⟨hσ_19, (FR_le (ms := [kO_row, kO_size]) f14 (by decide))⟩
theorem s_Q_slotsWithShapes {σ : SG} (hσ : II σ) : wp_ (fQ_slotsWithShapes σ) (fun r => True) := by
  unfold fQ_slotsWithShapes
  refine wp_bd (P := fun r => True ∧ (32 ≤ r.2 ∧ r.2 ≤ 32)) ?_ ?_
  · refine wp_whl (fun s => True ∧ (0 ≤ s.2 ∧ s.2 ≤ 32)) (fun s => (33 - s.2).toNat) ⟨True.intro, (by (try dsimp only) <;> first | omega | ((try simp (disch := omega) only [w32_of, w64_of, w8_of]) <;> first | omega | (split <;> omega) | (refine And.intro ?_ ?_ <;> split <;> omega)))⟩ ?_
    rintro ⟨there_1, i_2⟩ y3
    dsimp only at y3 ⊢
    obtain ⟨g1, g2⟩ := y3
    have c5 := w32_rng i_2
    refine wp_if (fun h4 => ?_) (fun h4 => ?_)
    · try simp (disch := omega) only [w32_of, w64_of, w8_of, decide_eq_true_eq, decide_eq_false_iff_not] at h4
      refine wp_bd (P := fun r => True) ?_ ?_
      · refine wp_ck (by (try dsimp only) <;> first | omega | ((try simp (disch := omega) only [w32_of, w64_of, w8_of]) <;> first | omega | (split <;> omega) | (refine And.intro ?_ ?_ <;> split <;> omega))) ?_
        refine wp_if (fun h6 => ?_) (fun h6 => ?_)
        · try simp (disch := omega) only [w32_of, w64_of, w8_of, decide_eq_true_eq, decide_eq_false_iff_not, fA_isThere] at h6
          exact wp_some True.intro
        · try simp (disch := omega) only [w32_of, w64_of, w8_of, decide_eq_true_eq, decide_eq_false_iff_not, fA_isThere] at h6
          exact wp_some True.intro
      rintro there_19 _ g7
      exact wp_some ⟨fun _ e => by cases e; exact ⟨⟨True.intro, (by (try dsimp only) <;> first | omega | ((try simp (disch := omega) only [w32_of, w64_of, w8_of]) <;> first | omega | (split <;> omega) | (refine And.intro ?_ ?_ <;> split <;> omega)))⟩, by (try dsimp only) <;> first | omega | ((try simp (disch := omega) only [w32_of, w64_of, w8_of]) <;> first | omega | (split <;> omega) | (refine And.intro ?_ ?_ <;> split <;> omega))⟩, fun _ e => (by cases e)⟩
    · try simp (disch := omega) only [w32_of, w64_of, w8_of, decide_eq_true_eq, decide_eq_false_iff_not] at h4
      exact wp_some ⟨fun _ e => (by cases e), fun _ e => by cases e; exact ⟨True.intro, (by (try dsimp only) <;> first | omega | ((try simp (disch := omega) only [w32_of, w64_of, w8_of]) <;> first | omega | (split <;> omega) | (refine And.intro ?_ ?_ <;> split <;> omega)))⟩⟩
  rintro ⟨there_23, i_24⟩ _ y10
  dsimp only at y10 ⊢
  obtain ⟨g8, g9⟩ := y10
  exact wp_some True.intro
theorem s_Q_place {σ : SG} {what_0 : Int} (hσ : II σ) (qwhat_0 : (-2147483648) ≤ what_0 ∧ what_0 ≤ 2147483647) : wp_ (fQ_place σ what_0) (fun r => (∀ v, r.1 = .inl v → (-1) ≤ v ∧ v ≤ 4096) ∧ (∀ e : Nat, r.1 = .inr e → 0 ≤ e ∧ e ≤ 0) ∧ II r.2 ∧ FR [] σ r.2) := by
  unfold fQ_place
  have c2 := w32_rng what_0
  refine wp_if (fun h1 => ?_) (fun h1 => ?_)
  · try simp (disch := omega) only [w32_of, w64_of, w8_of, decide_eq_true_eq, decide_eq_false_iff_not] at h1
    exact wp_some ⟨(fun _ e => (by cases e)), (fun _ e => by cases e; exact (by (try dsimp only) <;> first | omega | ((try simp (disch := omega) only [w32_of, w64_of, w8_of]) <;> first | omega | (split <;> omega) | (refine And.intro ?_ ?_ <;> split <;> omega)))), hσ, (FR_refl _ _)⟩
  · try simp (disch := omega) only [w32_of, w64_of, w8_of, decide_eq_true_eq, decide_eq_false_iff_not] at h1
    refine wp_rdI (by (try dsimp only) <;> first | omega | ((try simp (disch := omega) only [w32_of, w64_of, w8_of]) <;> first | omega | (split <;> omega) | (refine And.intro ?_ ?_ <;> split <;> omega))) (by (try dsimp only) <;> first | omega | ((try simp (disch := omega) only [w32_of, w64_of, w8_of]) <;> first | omega | (split <;> omega) | (refine And.intro ?_ ?_ <;> split <;> omega))) (fun x_1 e3 => ?_)
    have b4 : (-1) ≤ x_1 ∧ x_1 ≤ 4096 := by rw [e3]; exact ii_kJ_place hσ _
    exact wp_some ⟨(fun _ e => by cases e; exact (by (try dsimp only) <;> first | omega | ((try simp (disch := omega) only [w32_of, w64_of, w8_of]) <;> first | omega | (split <;> omega) | (refine And.intro ?_ ?_ <;> split <;> omega)))), (fun _ e => (by cases e)), hσ, (FR_refl _ _)⟩
theorem s_G_isShell {σ : SG} {ring_0 : Int} (hσ : II σ) (qring_0 : 0 ≤ ring_0 ∧ ring_0 ≤ 511) : wp_ (fG_isShell σ ring_0) (fun r => True) := by
  unfold fG_isShell
  refine wp_bd (P := fun r => True) ?_ ?_
  · have c1 := w32_rng ring_0
    refine wp_rdI (by (try dsimp only) <;> first | omega | ((try simp (disch := omega) only [w32_of, w64_of, w8_of]) <;> first | omega | (split <;> omega) | (refine And.intro ?_ ?_ <;> split <;> omega))) (by (try dsimp only) <;> first | omega | ((try simp (disch := omega) only [w32_of, w64_of, w8_of]) <;> first | omega | (split <;> omega) | (refine And.intro ?_ ?_ <;> split <;> omega))) (fun x_1 e2 => ?_)
    have c5 := w64_rng x_1
    refine wp_if (fun h4 => ?_) (fun h4 => ?_)
    · try simp (disch := omega) only [w32_of, w64_of, w8_of, decide_eq_true_eq, decide_eq_false_iff_not] at h4
      exact wp_some True.intro
    · try simp (disch := omega) only [w32_of, w64_of, w8_of, decide_eq_true_eq, decide_eq_false_iff_not] at h4
      exact wp_some True.intro
  rintro x_6 _ g6
  exact wp_some True.intro
theorem s_G_markBoundary {σ : SG} {way_0 : Int} (hσ : II σ) (qway_0 : 0 ≤ way_0 ∧ way_0 ≤ 4) : wp_ (fG_markBoundary σ way_0) (fun r => II r ∧ FR [kG_goesBack, kG_isBoundary] σ r) := by
  unfold fG_markBoundary
  refine wp_bd (P := fun r => (0 ≤ r.1 ∧ r.1 ≤ 16384) ∧ II r.2 ∧ FR [kG_goesBack, kG_isBoundary] σ r.2) ?_ ?_
  · refine wp_whl (fun s => (0 ≤ s.1 ∧ s.1 ≤ 16384) ∧ II s.2 ∧ FR [kG_goesBack, kG_isBoundary] σ s.2) (fun s => (16385 - s.1).toNat) ⟨(by (try dsimp only) <;> first | omega | ((try simp (disch := omega) only [w32_of, w64_of, w8_of]) <;> first | omega | (split <;> omega) | (refine And.intro ?_ ?_ <;> split <;> omega))), hσ, (FR_refl _ _)⟩ ?_
    rintro ⟨piece_1, σ_2⟩ y3
    dsimp only at y3 ⊢
    obtain ⟨g1, hσ_2, f2⟩ := y3
    have c5 := w32_rng piece_1
    have c6 := ii_kN_pieces hσ_2 0
    have c7 := FR_at f2 (c := kN_pieces) (by decide) 0
    have c8 := ii_kN_pieces hσ 0
    have c9 := w32_rng (σ_2 kN_pieces 0)
    refine wp_if (fun h4 => ?_) (fun h4 => ?_)
    · try simp (disch := omega) only [w32_of, w64_of, w8_of, decide_eq_true_eq, decide_eq_false_iff_not] at h4
      refine wp_rdI (by (try dsimp only) <;> first | omega | ((try simp (disch := omega) only [w32_of, w64_of, w8_of]) <;> first | omega | (split <;> omega) | (refine And.intro ?_ ?_ <;> split <;> omega))) (by (try dsimp only) <;> first | omega | ((try simp (disch := omega) only [w32_of, w64_of, w8_of]) <;> first | omega | (split <;> omega) | (refine And.intro ?_ ?_ <;> split <;> omega))) (fun x_11 e10 => ?_)
      have b11 : 0 ≤ x_11 ∧ x_11 ≤ 3 := by rw [e10]; exact ii_kG_above hσ_2 _
      refine wp_rdI (by (try dsimp only) <;> first | omega | ((try simp (disch := omega) only [w32_of, w64_of, w8_of]) <;> first | omega | (split <;> omega) | (refine And.intro ?_ ?_ <;> split <;> omega))) (by (try dsimp only) <;> first | omega | ((try simp (disch := omega) only [w32_of, w64_of, w8_of]) <;> first | omega | (split <;> omega) | (refine And.intro ?_ ?_ <;> split <;> omega))) (fun x_13 e12 => ?_)
      have b13 : 0 ≤ x_13 ∧ x_13 ≤ 3 := by rw [e12]; exact ii_kG_above hσ_2 _
      refine wp_rdI (by (try dsimp only) <;> first | omega | ((try simp (disch := omega) only [w32_of, w64_of, w8_of]) <;> first | omega | (split <;> omega) | (refine And.intro ?_ ?_ <;> split <;> omega))) (by (try dsimp only) <;> first | omega | ((try simp (disch := omega) only [w32_of, w64_of, w8_of]) <;> first | omega | (split <;> omega) | (refine And.intro ?_ ?_ <;> split <;> omega))) (fun x_15 e14 => ?_)
      have b15 : 0 ≤ x_15 ∧ x_15 ≤ 3 := by rw [e14]; exact ii_kN_pieceMask hσ_2 _
      have c16 := q_ixo_rng x_13 x_15
      have c17 := bz_bd (decide (¬ ((fG_isInResult way_0 x_11) = (fG_isInResult way_0 (q_ixo x_13 x_15)))))
      refine wp_waI hσ_2 b_kG_isBoundary (by (try dsimp only) <;> first | omega | ((try simp (disch := omega) only [w32_of, w64_of, w8_of]) <;> first | omega | (split <;> omega) | (refine And.intro ?_ ?_ <;> split <;> omega))) (by (try dsimp only) <;> first | omega | ((try simp (disch := omega) only [w32_of, w64_of, w8_of]) <;> first | omega | (split <;> omega) | (refine And.intro ?_ ?_ <;> split <;> omega))) (by (try dsimp only) <;> first | omega | ((try simp (disch := omega) only [w32_of, w64_of, w8_of]) <;> first | omega | (split <;> omega) | (refine And.intro ?_ ?_ <;> split <;> omega))) (fun σ_18 hσ_18 e18 => ?_)
      have f19 := FR_sg e18
      have c20 := bz_bd (fG_isInResult way_0 (q_ixo x_13 x_15))
      refine wp_waI hσ_18 b_kG_goesBack (by (try dsimp only) <;> first | omega | ((try simp (disch := omega) only [w32_of, w64_of, w8_of]) <;> first | omega | (split <;> omega) | (refine And.intro ?_ ?_ <;> split <;> omega))) (by (try dsimp only) <;> first | omega | ((try simp (disch := omega) only [w32_of, w64_of, w8_of]) <;> first | omega | (split <;> omega) | (refine And.intro ?_ ?_ <;> split <;> omega))) (by (try dsimp only) <;> first | omega | ((try simp (disch := omega) only [w32_of, w64_of, w8_of]) <;> first | omega | (split <;> omega) | (refine And.intro ?_ ?_ <;> split <;> omega))) (fun σ_20 hσ_20 e21 => ?_)
      have f22 := FR_sg e21
      exact wp_some ⟨fun _ e => by cases e; exact ⟨⟨(by (try dsimp only) <;> first | omega | ((try simp (disch := omega) only [w32_of, w64_of, w8_of]) <;> first | omega | (split <;> omega) | (refine And.intro ?_ ?_ <;> split <;> omega))), hσ_20, (FR_tr (ms := [kG_goesBack, kG_isBoundary]) (FR_tr (ms := [kG_goesBack, kG_isBoundary]) (FR_le (ms := [kG_goesBack, kG_isBoundary]) f2 (by decide)) f19 (by decide) (by decide)) f22 (by decide) (by decide))⟩, by (try dsimp only) <;> first | omega | ((try simp (disch := omega) only [w32_of, w64_of, w8_of]) <;> first | omega | (split <;> omega) | (refine And.intro ?_ ?_ <;> split <;> omega))⟩, fun _ e => (by cases e)⟩
    · try simp (disch := omega) only [w32_of, w64_of, w8_of, decide_eq_true_eq, decide_eq_false_iff_not] at h4
      exact wp_some ⟨fun _ e => (by cases e), fun _ e => by cases e; exact ⟨(by (try dsimp only) <;> first | omega | ((try simp (disch := omega) only [w32_of, w64_of, w8_of]) <;> first | omega | (split <;> omega) | (refine And.intro ?_ ?_ <;> split <;> omega))), hσ_2, (FR_le (ms := [kG_goesBack, kG_isBoundary]) f2 (by decide))⟩⟩
  rintro ⟨piece_25, σ_26⟩ _ y25
  dsimp only at y25 ⊢
  obtain ⟨g23, hσ_26, f24⟩ := y25
  exact wp_some ⟨hσ_26, (FR_le (ms := [kG_goesBack, kG_isBoundary]) f24 (by decide))⟩
theorem s_G_finishOf {σ : SG} {piece_0 : Int} (hσ : II σ) (qpiece_0 : 0 ≤ piece_0 ∧ piece_0 ≤ 16383) : wp_ (fG_finishOf σ piece_0) (fun r => (0 ≤ r ∧ r ≤ 8191)) := by
  unfold fG_finishOf
  refine wp_bd (P := fun r => (0 ≤ r ∧ r ≤ 8191)) ?_ ?_
  · have c1 := w32_rng piece_0
    refine wp_rdI (by (try dsimp only) <;> first | omega | ((try simp (disch := omega) only [w32_of, w64_of, w8_of]) <;> first | omega | (split <;> omega) | (refine And.intro ?_ ?_ <;> split <;> omega))) (by (try dsimp only) <;> first | omega | ((try simp (disch := omega) only [w32_of, w64_of, w8_of]) <;> first | omega | (split <;> omega) | (refine And.intro ?_ ?_ <;> split <;> omega))) (fun x_1 e2 => ?_)
    have b3 : 0 ≤ x_1 ∧ x_1 ≤ 1 := by rw [e2]; exact ii_kG_goesBack hσ _
    refine wp_if (fun h4 => ?_) (fun h4 => ?_)
    · try simp (disch := omega) only [w32_of, w64_of, w8_of, decide_eq_true_eq, decide_eq_false_iff_not] at h4
      refine wp_rdI (by (try dsimp only) <;> first | omega | ((try simp (disch := omega) only [w32_of, w64_of, w8_of]) <;> first | omega | (split <;> omega) | (refine And.intro ?_ ?_ <;> split <;> omega))) (by (try dsimp only) <;> first | omega | ((try simp (disch := omega) only [w32_of, w64_of, w8_of]) <;> first | omega | (split <;> omega) | (refine And.intro ?_ ?_ <;> split <;> omega))) (fun x_4 e5 => ?_)
      have b6 : 0 ≤ x_4 ∧ x_4 ≤ 8191 := by rw [e5]; exact ii_kN_pieceFrom hσ _
      exact wp_some (by (try dsimp only) <;> first | omega | ((try simp (disch := omega) only [w32_of, w64_of, w8_of]) <;> first | omega | (split <;> omega) | (refine And.intro ?_ ?_ <;> split <;> omega)))
    · try simp (disch := omega) only [w32_of, w64_of, w8_of, decide_eq_true_eq, decide_eq_false_iff_not] at h4
      refine wp_rdI (by (try dsimp only) <;> first | omega | ((try simp (disch := omega) only [w32_of, w64_of, w8_of]) <;> first | omega | (split <;> omega) | (refine And.intro ?_ ?_ <;> split <;> omega))) (by (try dsimp only) <;> first | omega | ((try simp (disch := omega) only [w32_of, w64_of, w8_of]) <;> first | omega | (split <;> omega) | (refine And.intro ?_ ?_ <;> split <;> omega))) (fun x_7 e7 => ?_)
      have b8 : 0 ≤ x_7 ∧ x_7 ≤ 8191 := by rw [e7]; exact ii_kN_pieceTo hσ _
      exact wp_some (by (try dsimp only) <;> first | omega | ((try simp (disch := omega) only [w32_of, w64_of, w8_of]) <;> first | omega | (split <;> omega) | (refine And.intro ?_ ?_ <;> split <;> omega)))
  rintro x_10 _ g9
  exact wp_some (by (try dsimp only) <;> first | omega | ((try simp (disch := omega) only [w32_of, w64_of, w8_of]) <;> first | omega | (split <;> omega) | (refine And.intro ?_ ?_ <;> split <;> omega)))
theorem s_G_otherEnd {σ : SG} {piece_0 : Int} {h_0 : Int} (hσ : II σ) (qpiece_0 : 0 ≤ piece_0 ∧ piece_0 ≤ 16383) (qh_0 : 0 ≤ h_0 ∧ h_0 ≤ 8191) : wp_ (fG_otherEnd σ piece_0 h_0) (fun r => (0 ≤ r ∧ r ≤ 8191)) := by
  unfold fG_otherEnd
  refine wp_bd (P := fun r => (0 ≤ r ∧ r ≤ 8191)) ?_ ?_
  · have c1 := w32_rng piece_0
    refine wp_rdI (by (try dsimp only) <;> first | omega | ((try simp (disch := omega) only [w32_of, w64_of, w8_of]) <;> first | omega | (split <;> omega) | (refine And.intro ?_ ?_ <;> split <;> omega))) (by (try dsimp only) <;> first | omega | ((try simp (disch := omega) only [w32_of, w64_of, w8_of]) <;> first | omega | (split <;> omega) | (refine And.intro ?_ ?_ <;> split <;> omega))) (fun x_1 e2 => ?_)
    have b3 : 0 ≤ x_1 ∧ x_1 ≤ 8191 := by rw [e2]; exact ii_kN_pieceFrom hσ _
    have c5 := w32_rng x_1
    have c6 := w32_rng h_0
    refine wp_if (fun h4 => ?_) (fun h4 => ?_)
    · try simp (disch := omega) only [w32_of, w64_of, w8_of, decide_eq_true_eq, decide_eq_false_iff_not] at h4
      refine wp_rdI (by (try dsimp only) <;> first | omega | ((try simp (disch := omega) only [w32_of, w64_of, w8_of]) <;> first | omega | (split <;> omega) | (refine And.intro ?_ ?_ <;> split <;> omega))) (by (try dsimp only) <;> first | omega | ((try simp (disch := omega) only [w32_of, w64_of, w8_of]) <;> first | omega | (split <;> omega) | (refine And.intro ?_ ?_ <;> split <;> omega))) (fun x_4 e7 => ?_)
      have b8 : 0 ≤ x_4 ∧ x_4 ≤ 8191 := by rw [e7]; exact ii_kN_pieceTo hσ _
      exact wp_some (by (try dsimp only) <;> first | omega | ((try simp (disch := omega) only [w32_of, w64_of, w8_of]) <;> first | omega | (split <;> omega) | (refine And.intro ?_ ?_ <;> split <;> omega)))
    · try simp (disch := omega) only [w32_of, w64_of, w8_of, decide_eq_true_eq, decide_eq_false_iff_not] at h4
      refine wp_rdI (by (try dsimp only) <;> first | omega | ((try simp (disch := omega) only [w32_of, w64_of, w8_of]) <;> first | omega | (split <;> omega) | (refine And.intro ?_ ?_ <;> split <;> omega))) (by (try dsimp only) <;> first | omega | ((try simp (disch := omega) only [w32_of, w64_of, w8_of]) <;> first | omega | (split <;> omega) | (refine And.intro ?_ ?_ <;> split <;> omega))) (fun x_7 e9 => ?_)
      have b10 : 0 ≤ x_7 ∧ x_7 ≤ 8191 := by rw [e9]; exact ii_kN_pieceFrom hσ _
      exact wp_some (by (try dsimp only) <;> first | omega | ((try simp (disch := omega) only [w32_of, w64_of, w8_of]) <;> first | omega | (split <;> omega) | (refine And.intro ?_ ?_ <;> split <;> omega)))
  rintro x_10 _ g11
  exact wp_some (by (try dsimp only) <;> first | omega | ((try simp (disch := omega) only [w32_of, w64_of, w8_of]) <;> first | omega | (split <;> omega) | (refine And.intro ?_ ?_ <;> split <;> omega)))
theorem s_G_startOf {σ : SG} {piece_0 : Int} (hσ : II σ) (qpiece_0 : 0 ≤ piece_0 ∧ piece_0 ≤ 16383) : wp_ (fG_startOf σ piece_0) (fun r => (0 ≤ r ∧ r ≤ 8191)) := by
  unfold fG_startOf
  refine wp_bd (P := fun r => (0 ≤ r ∧ r ≤ 8191)) ?_ ?_
  · have c1 := w32_rng piece_0
    refine wp_rdI (by (try dsimp only) <;> first | omega | ((try simp (disch := omega) only [w32_of, w64_of, w8_of]) <;> first | omega | (split <;> omega) | (refine And.intro ?_ ?_ <;> split <;> omega))) (by (try dsimp only) <;> first | omega | ((try simp (disch := omega) only [w32_of, w64_of, w8_of]) <;> first | omega | (split <;> omega) | (refine And.intro ?_ ?_ <;> split <;> omega))) (fun x_1 e2 => ?_)
    have b3 : 0 ≤ x_1 ∧ x_1 ≤ 1 := by rw [e2]; exact ii_kG_goesBack hσ _
    refine wp_if (fun h4 => ?_) (fun h4 => ?_)
    · try simp (disch := omega) only [w32_of, w64_of, w8_of, decide_eq_true_eq, decide_eq_false_iff_not] at h4
      refine wp_rdI (by (try dsimp only) <;> first | omega | ((try simp (disch := omega) only [w32_of, w64_of, w8_of]) <;> first | omega | (split <;> omega) | (refine And.intro ?_ ?_ <;> split <;> omega))) (by (try dsimp only) <;> first | omega | ((try simp (disch := omega) only [w32_of, w64_of, w8_of]) <;> first | omega | (split <;> omega) | (refine And.intro ?_ ?_ <;> split <;> omega))) (fun x_4 e5 => ?_)
      have b6 : 0 ≤ x_4 ∧ x_4 ≤ 8191 := by rw [e5]; exact ii_kN_pieceTo hσ _
      exact wp_some (by (try dsimp only) <;> first | omega | ((try simp (disch := omega) only [w32_of, w64_of, w8_of]) <;> first | omega | (split <;> omega) | (refine And.intro ?_ ?_ <;> split <;> omega)))
    · try simp (disch := omega) only [w32_of, w64_of, w8_of, decide_eq_true_eq, decide_eq_false_iff_not] at h4
      refine wp_rdI (by (try dsimp only) <;> first | omega | ((try simp (disch := omega) only [w32_of, w64_of, w8_of]) <;> first | omega | (split <;> omega) | (refine And.intro ?_ ?_ <;> split <;> omega))) (by (try dsimp only) <;> first | omega | ((try simp (disch := omega) only [w32_of, w64_of, w8_of]) <;> first | omega | (split <;> omega) | (refine And.intro ?_ ?_ <;> split <;> omega))) (fun x_7 e7 => ?_)
      have b8 : 0 ≤ x_7 ∧ x_7 ≤ 8191 := by rw [e7]; exact ii_kN_pieceFrom hσ _
      exact wp_some (by (try dsimp only) <;> first | omega | ((try simp (disch := omega) only [w32_of, w64_of, w8_of]) <;> first | omega | (split <;> omega) | (refine And.intro ?_ ?_ <;> split <;> omega)))
  rintro x_10 _ g9
  exact wp_some (by (try dsimp only) <;> first | omega | ((try simp (disch := omega) only [w32_of, w64_of, w8_of]) <;> first | omega | (split <;> omega) | (refine And.intro ?_ ?_ <;> split <;> omega)))
theorem s_P_turnAt {σ : SG} {a_0 : Int} {b_0 : Int} {c_0 : Int} (hσ : II σ) (qa_0 : 0 ≤ a_0 ∧ a_0 ≤ 1023) (qb_0 : 0 ≤ b_0 ∧ b_0 ≤ 1023) (qc_0 : 0 ≤ c_0 ∧ c_0 ≤ 1023) : wp_ (fP_turnAt σ a_0 b_0 c_0) (fun r => ((-1) ≤ r ∧ r ≤ 1)) := by
  unfold fP_turnAt
  have c1 := w32_rng a_0
  refine wp_rdI (by (try dsimp only) <;> first | omega | ((try simp (disch := omega) only [w32_of, w64_of, w8_of]) <;> first | omega | (split <;> omega) | (refine And.intro ?_ ?_ <;> split <;> omega))) (by (try dsimp only) <;> first | omega | ((try simp (disch := omega) only [w32_of, w64_of, w8_of]) <;> first | omega | (split <;> omega) | (refine And.intro ?_ ?_ <;> split <;> omega))) (fun x_1 e2 => ?_)
  refine wp_rdI (by (try dsimp only) <;> first | omega | ((try simp (disch := omega) only [w32_of, w64_of, w8_of]) <;> first | omega | (split <;> omega) | (refine And.intro ?_ ?_ <;> split <;> omega))) (by (try dsimp only) <;> first | omega | ((try simp (disch := omega) only [w32_of, w64_of, w8_of]) <;> first | omega | (split <;> omega) | (refine And.intro ?_ ?_ <;> split <;> omega))) (fun x_3 e4 => ?_)
  have c6 := w32_rng b_0
  refine wp_rdI (by (try dsimp only) <;> first | omega | ((try simp (disch := omega) only [w32_of, w64_of, w8_of]) <;> first | omega | (split <;> omega) | (refine And.intro ?_ ?_ <;> split <;> omega))) (by (try dsimp only) <;> first | omega | ((try simp (disch := omega) only [w32_of, w64_of, w8_of]) <;> first | omega | (split <;> omega) | (refine And.intro ?_ ?_ <;> split <;> omega))) (fun x_5 e7 => ?_)
  refine wp_rdI (by (try dsimp only) <;> first | omega | ((try simp (disch := omega) only [w32_of, w64_of, w8_of]) <;> first | omega | (split <;> omega) | (refine And.intro ?_ ?_ <;> split <;> omega))) (by (try dsimp only) <;> first | omega | ((try simp (disch := omega) only [w32_of, w64_of, w8_of]) <;> first | omega | (split <;> omega) | (refine And.intro ?_ ?_ <;> split <;> omega))) (fun x_7 e9 => ?_)
  have c11 := w32_rng c_0
  refine wp_rdI (by (try dsimp only) <;> first | omega | ((try simp (disch := omega) only [w32_of, w64_of, w8_of]) <;> first | omega | (split <;> omega) | (refine And.intro ?_ ?_ <;> split <;> omega))) (by (try dsimp only) <;> first | omega | ((try simp (disch := omega) only [w32_of, w64_of, w8_of]) <;> first | omega | (split <;> omega) | (refine And.intro ?_ ?_ <;> split <;> omega))) (fun x_9 e12 => ?_)
  refine wp_rdI (by (try dsimp only) <;> first | omega | ((try simp (disch := omega) only [w32_of, w64_of, w8_of]) <;> first | omega | (split <;> omega) | (refine And.intro ?_ ?_ <;> split <;> omega))) (by (try dsimp only) <;> first | omega | ((try simp (disch := omega) only [w32_of, w64_of, w8_of]) <;> first | omega | (split <;> omega) | (refine And.intro ?_ ?_ <;> split <;> omega))) (fun x_11 e14 => ?_)
  have c16 := w32_rng x_1
  have c17 := w32_rng x_3
  have c18 := w32_rng x_5
  have c19 := w32_rng x_7
  have c20 := w32_rng x_9
  have c21 := w32_rng x_11
  have c22 := p_Q_turnOf (ax_0 := (w32 x_1)) (ay_0 := (w32 x_3)) (bx_0 := (w32 x_5)) (by_0 := (w32 x_7)) (cx_0 := (w32 x_9)) (cy_0 := (w32 x_11))
  exact wp_some (by (try dsimp only) <;> first | omega | ((try simp (disch := omega) only [w32_of, w64_of, w8_of]) <;> first | omega | (split <;> omega) | (refine And.intro ?_ ?_ <;> split <;> omega)))
theorem s_P_areOnOneLine {σ : SG} (hσ : II σ) : wp_ (fP_areOnOneLine σ) (fun r => True) := by
  unfold fP_areOnOneLine
  refine wp_bx (P := fun r => (2 ≤ r ∧ r ≤ 1024)) ?_ ?_
  · refine wp_whl (fun s => (2 ≤ s ∧ s ≤ 1024)) (fun s => (1025 - s).toNat) (by (try dsimp only) <;> first | omega | ((try simp (disch := omega) only [w32_of, w64_of, w8_of]) <;> first | omega | (split <;> omega) | (refine And.intro ?_ ?_ <;> split <;> omega))) ?_
    rintro i_1 g1
    have c3 := w32_rng i_1
    have c4 := ii_kP_places hσ 0
    have c5 := w32_rng (σ kP_places 0)
    refine wp_if (fun h2 => ?_) (fun h2 => ?_)
    · try simp (disch := omega) only [w32_of, w64_of, w8_of, decide_eq_true_eq, decide_eq_false_iff_not] at h2
      refine wp_bd (s_P_turnAt (σ := σ) (a_0 := 0) (b_0 := 1) (c_0 := i_1) hσ (by (try dsimp only) <;> first | omega | ((try simp (disch := omega) only [w32_of, w64_of, w8_of]) <;> first | omega | (split <;> omega) | (refine And.intro ?_ ?_ <;> split <;> omega))) (by (try dsimp only) <;> first | omega | ((try simp (disch := omega) only [w32_of, w64_of, w8_of]) <;> first | omega | (split <;> omega) | (refine And.intro ?_ ?_ <;> split <;> omega))) (by (try dsimp only) <;> first | omega | ((try simp (disch := omega) only [w32_of, w64_of, w8_of]) <;> first | omega | (split <;> omega) | (refine And.intro ?_ ?_ <;> split <;> omega)))) ?_
      rintro x_11 _ g6
      have c8 := w32_rng x_11
      refine wp_if (fun h7 => ?_) (fun h7 => ?_)
      · try simp (disch := omega) only [w32_of, w64_of, w8_of, decide_eq_true_eq, decide_eq_false_iff_not] at h7
        exact wp_some ⟨fun _ e => (by cases e), fun _ e => by cases e; exact ⟨fun _ e => (by cases e), fun _ e => by cases e; exact True.intro⟩⟩
      · try simp (disch := omega) only [w32_of, w64_of, w8_of, decide_eq_true_eq, decide_eq_false_iff_not] at h7
        exact wp_some ⟨fun _ e => by cases e; exact ⟨(by (try dsimp only) <;> first | omega | ((try simp (disch := omega) only [w32_of, w64_of, w8_of]) <;> first | omega | (split <;> omega) | (refine And.intro ?_ ?_ <;> split <;> omega))), by (try dsimp only) <;> first | omega | ((try simp (disch := omega) only [w32_of, w64_of, w8_of]) <;> first | omega | (split <;> omega) | (refine And.intro ?_ ?_ <;> split <;> omega))⟩, fun _ e => (by cases e)⟩
    · try simp (disch := omega) only [w32_of, w64_of, w8_of, decide_eq_true_eq, decide_eq_false_iff_not] at h2
      exact wp_some ⟨fun _ e => (by cases e), fun _ e => by cases e; exact ⟨fun _ e => by cases e; exact (by (try dsimp only) <;> first | omega | ((try simp (disch := omega) only [w32_of, w64_of, w8_of]) <;> first | omega | (split <;> omega) | (refine And.intro ?_ ?_ <;> split <;> omega))), fun _ e => (by cases e)⟩⟩
  rintro i_15 g9
  exact wp_some True.intro
theorem s_P_circleSign {σ : SG} {a_0 : Int} {b_0 : Int} {c_0 : Int} {d_0 : Int} (hσ : II σ) (qa_0 : 0 ≤ a_0 ∧ a_0 ≤ 1023) (qb_0 : 0 ≤ b_0 ∧ b_0 ≤ 1023) (qc_0 : 0 ≤ c_0 ∧ c_0 ≤ 1023) (qd_0 : 0 ≤ d_0 ∧ d_0 ≤ 1023) : wp_ (fP_circleSign σ a_0 b_0 c_0 d_0) (fun r => ((-1) ≤ r ∧ r ≤ 1)) := by
  unfold fP_circleSign
  have c1 := w32_rng a_0
  refine wp_rdI (by (try dsimp only) <;> first | omega | ((try simp (disch := omega) only [w32_of, w64_of, w8_of]) <;> first | omega | (split <;> omega) | (refine And.intro ?_ ?_ <;> split <;> omega))) (by (try dsimp only) <;> first | omega | ((try simp (disch := omega) only [w32_of, w64_of, w8_of]) <;> first | omega | (split <;> omega) | (refine And.intro ?_ ?_ <;> split <;> omega))) (fun x_1 e2 => ?_)
  have c4 := w32_rng d_0
  refine wp_rdI (by (try dsimp only) <;> first | omega | ((try simp (disch := omega) only [w32_of, w64_of, w8_of]) <;> first | omega | (split <;> omega) | (refine And.intro ?_ ?_ <;> split <;> omega))) (by (try dsimp only) <;> first | omega | ((try simp (disch := omega) only [w32_of, w64_of, w8_of]) <;> first | omega | (split <;> omega) | (refine And.intro ?_ ?_ <;> split <;> omega))) (fun x_3 e5 => ?_)
  refine wp_rdI (by (try dsimp only) <;> first | omega | ((try simp (disch := omega) only [w32_of, w64_of, w8_of]) <;> first | omega | (split <;> omega) | (refine And.intro ?_ ?_ <;> split <;> omega))) (by (try dsimp only) <;> first | omega | ((try simp (disch := omega) only [w32_of, w64_of, w8_of]) <;> first | omega | (split <;> omega) | (refine And.intro ?_ ?_ <;> split <;> omega))) (fun x_5 e7 => ?_)
  refine wp_rdI (by (try dsimp only) <;> first | omega | ((try simp (disch := omega) only [w32_of, w64_of, w8_of]) <;> first | omega | (split <;> omega) | (refine And.intro ?_ ?_ <;> split <;> omega))) (by (try dsimp only) <;> first | omega | ((try simp (disch := omega) only [w32_of, w64_of, w8_of]) <;> first | omega | (split <;> omega) | (refine And.intro ?_ ?_ <;> split <;> omega))) (fun x_7 e9 => ?_)
  have c11 := w32_rng b_0
  refine wp_rdI (by (try dsimp only) <;> first | omega | ((try simp (disch := omega) only [w32_of, w64_of, w8_of]) <;> first | omega | (split <;> omega) | (refine And.intro ?_ ?_ <;> split <;> omega))) (by (try dsimp only) <;> first | omega | ((try simp (disch := omega) only [w32_of, w64_of, w8_of]) <;> first | omega | (split <;> omega) | (refine And.intro ?_ ?_ <;> split <;> omega))) (fun x_9 e12 => ?_)
  refine wp_rdI (by (try dsimp only) <;> first | omega | ((try simp (disch := omega) only [w32_of, w64_of, w8_of]) <;> first | omega | (split <;> omega) | (refine And.intro ?_ ?_ <;> split <;> omega))) (by (try dsimp only) <;> first | omega | ((try simp (disch := omega) only [w32_of, w64_of, w8_of]) <;> first | omega | (split <;> omega) | (refine And.intro ?_ ?_ <;> split <;> omega))) (fun x_11 e14 => ?_)
  refine wp_rdI (by (try dsimp only) <;> first | omega | ((try simp (disch := omega) only [w32_of, w64_of, w8_of]) <;> first | omega | (split <;> omega) | (refine And.intro ?_ ?_ <;> split <;> omega))) (by (try dsimp only) <;> first | omega | ((try simp (disch := omega) only [w32_of, w64_of, w8_of]) <;> first | omega | (split <;> omega) | (refine And.intro ?_ ?_ <;> split <;> omega))) (fun x_13 e16 => ?_)
  refine wp_rdI (by (try dsimp only) <;> first | omega | ((try simp (disch := omega) only [w32_of, w64_of, w8_of]) <;> first | omega | (split <;> omega) | (refine And.intro ?_ ?_ <;> split <;> omega))) (by (try dsimp only) <;> first | omega | ((try simp (disch := omega) only [w32_of, w64_of, w8_of]) <;> first | omega | (split <;> omega) | (refine And.intro ?_ ?_ <;> split <;> omega))) (fun x_15 e18 => ?_)
  have c20 := w32_rng c_0
  refine wp_rdI (by (try dsimp only) <;> first | omega | ((try simp (disch := omega) only [w32_of, w64_of, w8_of]) <;> first | omega | (split <;> omega) | (refine And.intro ?_ ?_ <;> split <;> omega))) (by (try dsimp only) <;> first | omega | ((try simp (disch := omega) only [w32_of, w64_of, w8_of]) <;> first | omega | (split <;> omega) | (refine And.intro ?_ ?_ <;> split <;> omega))) (fun x_17 e21 => ?_)
  refine wp_rdI (by (try dsimp only) <;> first | omega | ((try simp (disch := omega) only [w32_of, w64_of, w8_of]) <;> first | omega | (split <;> omega) | (refine And.intro ?_ ?_ <;> split <;> omega))) (by (try dsimp only) <;> first | omega | ((try simp (disch := omega) only [w32_of, w64_of, w8_of]) <;> first | omega | (split <;> omega) | (refine And.intro ?_ ?_ <;> split <;> omega))) (fun x_19 e23 => ?_)
  refine wp_rdI (by (try dsimp only) <;> first | omega | ((try simp (disch := omega) only [w32_of, w64_of, w8_of]) <;> first | omega | (split <;> omega) | (refine And.intro ?_ ?_ <;> split <;> omega))) (by (try dsimp only) <;> first | omega | ((try simp (disch := omega) only [w32_of, w64_of, w8_of]) <;> first | omega | (split <;> omega) | (refine And.intro ?_ ?_ <;> split <;> omega))) (fun x_21 e25 => ?_)
  refine wp_rdI (by (try dsimp only) <;> first | omega | ((try simp (disch := omega) only [w32_of, w64_of, w8_of]) <;> first | omega | (split <;> omega) | (refine And.intro ?_ ?_ <;> split <;> omega))) (by (try dsimp only) <;> first | omega | ((try simp (disch := omega) only [w32_of, w64_of, w8_of]) <;> first | omega | (split <;> omega) | (refine And.intro ?_ ?_ <;> split <;> omega))) (fun x_23 e27 => ?_)
  have c29 := w32_rng x_1
  have c30 := w32_rng x_3
  have c31 := w32_rng x_5
  have c32 := w32_rng x_7
  have c33 := w32_rng x_9
  have c34 := w32_rng x_11
  have c35 := w32_rng x_21
  have c36 := w32_rng x_23
  have c37 := w32_rng x_13
  have c38 := w32_rng x_15
  have c39 := w32_rng x_17
  have c40 := w32_rng x_19
  have c41 := p_Q_signOfSum (a_0 := ((((w32 x_1) - (w32 x_3)) * ((w32 x_1) - (w32 x_3))) + (((w32 x_5) - (w32 x_7)) * ((w32 x_5) - (w32 x_7))))) (b_0 := ((((w32 x_9) - (w32 x_11)) * ((w32 x_21) - (w32 x_23))) - (((w32 x_13) - (w32 x_15)) * ((w32 x_17) - (w32 x_19))))) (c_0 := ((((w32 x_9) - (w32 x_11)) * ((w32 x_9) - (w32 x_11))) + (((w32 x_13) - (w32 x_15)) * ((w32 x_13) - (w32 x_15))))) (d_0 := ((((w32 x_17) - (w32 x_19)) * ((w32 x_5) - (w32 x_7))) - (((w32 x_21) - (w32 x_23)) * ((w32 x_1) - (w32 x_3))))) (e_0 := ((((w32 x_17) - (w32 x_19)) * ((w32 x_17) - (w32 x_19))) + (((w32 x_21) - (w32 x_23)) * ((w32 x_21) - (w32 x_23))))) (f_0 := ((((w32 x_1) - (w32 x_3)) * ((w32 x_13) - (w32 x_15))) - (((w32 x_5) - (w32 x_7)) * ((w32 x_9) - (w32 x_11)))))
  exact wp_some (by (try dsimp only) <;> first | omega | ((try simp (disch := omega) only [w32_of, w64_of, w8_of]) <;> first | omega | (split <;> omega) | (refine And.intro ?_ ?_ <;> split <;> omega)))
theorem s_P_firstNeighbour {σ : SG} (hσ : II σ) : wp_ (fP_firstNeighbour σ) (fun r => (1 ≤ r ∧ r ≤ 1023)) := by
  unfold fP_firstNeighbour
  refine wp_bd (P := fun r => (1 ≤ r.1 ∧ r.1 ≤ 1023) ∧ (2 ≤ r.2 ∧ r.2 ≤ 1024)) ?_ ?_
  · refine wp_whl (fun s => (1 ≤ s.1 ∧ s.1 ≤ 1023) ∧ (2 ≤ s.2 ∧ s.2 ≤ 1024)) (fun s => (1025 - s.2).toNat) ⟨(by (try dsimp only) <;> first | omega | ((try simp (disch := omega) only [w32_of, w64_of, w8_of]) <;> first | omega | (split <;> omega) | (refine And.intro ?_ ?_ <;> split <;> omega))), (by (try dsimp only) <;> first | omega | ((try simp (disch := omega) only [w32_of, w64_of, w8_of]) <;> first | omega | (split <;> omega) | (refine And.intro ?_ ?_ <;> split <;> omega)))⟩ ?_
    rintro ⟨best_1, i_2⟩ y3
    dsimp only at y3 ⊢
    obtain ⟨g1, g2⟩ := y3
    have c5 := w32_rng i_2
    have c6 := ii_kP_places hσ 0
    have c7 := w32_rng (σ kP_places 0)
    refine wp_if (fun h4 => ?_) (fun h4 => ?_)
    · try simp (disch := omega) only [w32_of, w64_of, w8_of, decide_eq_true_eq, decide_eq_false_iff_not] at h4
      refine wp_bd (P := fun r => (1 ≤ r ∧ r ≤ 1023)) ?_ ?_
      · refine wp_bd (s_P_turnAt (σ := σ) (a_0 := 0) (b_0 := best_1) (c_0 := i_2) hσ (by (try dsimp only) <;> first | omega | ((try simp (disch := omega) only [w32_of, w64_of, w8_of]) <;> first | omega | (split <;> omega) | (refine And.intro ?_ ?_ <;> split <;> omega))) (by (try dsimp only) <;> first | omega | ((try simp (disch := omega) only [w32_of, w64_of, w8_of]) <;> first | omega | (split <;> omega) | (refine And.intro ?_ ?_ <;> split <;> omega))) (by (try dsimp only) <;> first | omega | ((try simp (disch := omega) only [w32_of, w64_of, w8_of]) <;> first | omega | (split <;> omega) | (refine And.intro ?_ ?_ <;> split <;> omega)))) ?_
        rintro x_16 _ g8
        have c10 := w32_rng x_16
        refine wp_if (fun h9 => ?_) (fun h9 => ?_)
        · try simp (disch := omega) only [w32_of, w64_of, w8_of, decide_eq_true_eq, decide_eq_false_iff_not] at h9
          exact wp_some (by (try dsimp only) <;> first | omega | ((try simp (disch := omega) only [w32_of, w64_of, w8_of]) <;> first | omega | (split <;> omega) | (refine And.intro ?_ ?_ <;> split <;> omega)))
        · try simp (disch := omega) only [w32_of, w64_of, w8_of, decide_eq_true_eq, decide_eq_false_iff_not] at h9
          exact wp_some (by (try dsimp only) <;> first | omega | ((try simp (disch := omega) only [w32_of, w64_of, w8_of]) <;> first | omega | (split <;> omega) | (refine And.intro ?_ ?_ <;> split <;> omega)))
      rintro best_20 _ g11
      exact wp_some ⟨fun _ e => by cases e; exact ⟨⟨(by (try dsimp only) <;> first | omega | ((try simp (disch := omega) only [w32_of, w64_of, w8_of]) <;> first | omega | (split <;> omega) | (refine And.intro ?_ ?_ <;> split <;> omega))), (by (try dsimp only) <;> first | omega | ((try simp (disch := omega) only [w32_of, w64_of, w8_of]) <;> first | omega | (split <;> omega) | (refine And.intro ?_ ?_ <;> split <;> omega)))⟩, by (try dsimp only) <;> first | omega | ((try simp (disch := omega) only [w32_of, w64_of, w8_of]) <;> first | omega | (split <;> omega) | (refine And.intro ?_ ?_ <;> split <;> omega))⟩, fun _ e => (by cases e)⟩
    · try simp (disch := omega) only [w32_of, w64_of, w8_of, decide_eq_true_eq, decide_eq_false_iff_not] at h4
      exact wp_some ⟨fun _ e => (by cases e), fun _ e => by cases e; exact ⟨(by (try dsimp only) <;> first | omega | ((try simp (disch := omega) only [w32_of, w64_of, w8_of]) <;> first | omega | (split <;> omega) | (refine And.intro ?_ ?_ <;> split <;> omega))), (by (try dsimp only) <;> first | omega | ((try simp (disch := omega) only [w32_of, w64_of, w8_of]) <;> first | omega | (split <;> omega) | (refine And.intro ?_ ?_ <;> split <;> omega)))⟩⟩
  rintro ⟨best_24, i_25⟩ _ y14
  dsimp only at y14 ⊢
  obtain ⟨g12, g13⟩ := y14
  exact wp_some (by (try dsimp only) <;> first | omega | ((try simp (disch := omega) only [w32_of, w64_of, w8_of]) <;> first | omega | (split <;> omega) | (refine And.intro ?_ ?_ <;> split <;> omega)))
theorem s_Q_found {σ : SG} {k_0 : Int} (hσ : II σ) (qk_0 : (-2147483648) ≤ k_0 ∧ k_0 ≤ 2147483647) : wp_ (fQ_found σ k_0) (fun r => (∀ v, r.1 = .inl v → 0 ≤ v ∧ v ≤ 31) ∧ (∀ e : Nat, r.1 = .inr e → 0 ≤ e ∧ e ≤ 0) ∧ II r.2 ∧ FR [] σ r.2) := by
  unfold fQ_found
  have c2 := w32_rng k_0
  have c3 := ii_kQ_foundCount hσ 0
  have c4 := w32_rng (σ kQ_foundCount 0)
  refine wp_if (fun h1 => ?_) (fun h1 => ?_)
  · try simp (disch := omega) only [w32_of, w64_of, w8_of, decide_eq_true_eq, decide_eq_false_iff_not] at h1
    exact wp_some ⟨(fun _ e => (by cases e)), (fun _ e => by cases e; exact (by (try dsimp only) <;> first | omega | ((try simp (disch := omega) only [w32_of, w64_of, w8_of]) <;> first | omega | (split <;> omega) | (refine And.intro ?_ ?_ <;> split <;> omega)))), hσ, (FR_refl _ _)⟩
  · try simp (disch := omega) only [w32_of, w64_of, w8_of, decide_eq_true_eq, decide_eq_false_iff_not] at h1
    refine wp_rdI (by (try dsimp only) <;> first | omega | ((try simp (disch := omega) only [w32_of, w64_of, w8_of]) <;> first | omega | (split <;> omega) | (refine And.intro ?_ ?_ <;> split <;> omega))) (by (try dsimp only) <;> first | omega | ((try simp (disch := omega) only [w32_of, w64_of, w8_of]) <;> first | omega | (split <;> omega) | (refine And.intro ?_ ?_ <;> split <;> omega))) (fun x_1 e5 => ?_)
    have b6 : 0 ≤ x_1 ∧ x_1 ≤ 31 := by rw [e5]; exact ii_kQ_foundSlots hσ _
    exact wp_some ⟨(fun _ e => by cases e; exact (by (try dsimp only) <;> first | omega | ((try simp (disch := omega) only [w32_of, w64_of, w8_of]) <;> first | omega | (split <;> omega) | (refine And.intro ?_ ?_ <;> split <;> omega)))), (fun _ e => (by cases e)), hσ, (FR_refl _ _)⟩
theorem s_Q_point {σ : SG} {i_0 : Int} {x_0 : Int} {y_0 : Int} (hσ : II σ) (qi_0 : (-2147483648) ≤ i_0 ∧ i_0 ≤ 2147483647) (qx_0 : (-9223372036854775808) ≤ x_0 ∧ x_0 ≤ 9223372036854775807) (qy_0 : (-9223372036854775808) ≤ y_0 ∧ y_0 ≤ 9223372036854775807) : wp_ (fQ_point σ i_0 x_0 y_0) (fun r => (∀ e : Nat, r.1 = .inr e → 0 ≤ e ∧ e ≤ 2) ∧ II r.2 ∧ FR [kI_x, kI_y] σ r.2) := by
  unfold fQ_point
  refine wp_if (fun h1 => ?_) (fun h1 => ?_)
  · try simp (disch := omega) only [w32_of, w64_of, w8_of, decide_eq_true_eq, decide_eq_false_iff_not, fQ_isNoSignPoint] at h1
    exact wp_some ⟨(fun _ e => by cases e; exact (by (try dsimp only) <;> first | omega | ((try simp (disch := omega) only [w32_of, w64_of, w8_of]) <;> first | omega | (split <;> omega) | (refine And.intro ?_ ?_ <;> split <;> omega)))), hσ, (FR_refl _ _)⟩
  · try simp (disch := omega) only [w32_of, w64_of, w8_of, decide_eq_true_eq, decide_eq_false_iff_not, fQ_isNoSignPoint] at h1
    refine wp_if (fun h2 => ?_) (fun h2 => ?_)
    · try simp (disch := omega) only [w32_of, w64_of, w8_of, decide_eq_true_eq, decide_eq_false_iff_not, fQ_isNoNumber] at h2
      exact wp_some ⟨(fun _ e => by cases e; exact (by (try dsimp only) <;> first | omega | ((try simp (disch := omega) only [w32_of, w64_of, w8_of]) <;> first | omega | (split <;> omega) | (refine And.intro ?_ ?_ <;> split <;> omega)))), hσ, (FR_refl _ _)⟩
    · try simp (disch := omega) only [w32_of, w64_of, w8_of, decide_eq_true_eq, decide_eq_false_iff_not, fQ_isNoNumber] at h2
      have c3 := w32_rng i_0
      refine wp_waI hσ b_kI_x (by (try dsimp only) <;> first | omega | ((try simp (disch := omega) only [w32_of, w64_of, w8_of]) <;> first | omega | (split <;> omega) | (refine And.intro ?_ ?_ <;> split <;> omega))) (by (try dsimp only) <;> first | omega | ((try simp (disch := omega) only [w32_of, w64_of, w8_of]) <;> first | omega | (split <;> omega) | (refine And.intro ?_ ?_ <;> split <;> omega))) (by (try dsimp only) <;> first | omega | ((try simp (disch := omega) only [w32_of, w64_of, w8_of]) <;> first | omega | (split <;> omega) | (refine And.intro ?_ ?_ <;> split <;> omega))) (fun σ_2 hσ_2 e4 => ?_)
      have f5 := FR_sg e4
      refine wp_waI hσ_2 b_kI_y (by (try dsimp only) <;> first | omega | ((try simp (disch := omega) only [w32_of, w64_of, w8_of]) <;> first | omega | (split <;> omega) | (refine And.intro ?_ ?_ <;> split <;> omega))) (by (try dsimp only) <;> first | omega | ((try simp (disch := omega) only [w32_of, w64_of, w8_of]) <;> first | omega | (split <;> omega) | (refine And.intro ?_ ?_ <;> split <;> omega))) (by (try dsimp only) <;> first | omega | ((try simp (disch := omega) only [w32_of, w64_of, w8_of]) <;> first | omega | (split <;> omega) | (refine And.intro ?_ ?_ <;> split <;> omega))) (fun σ_4 hσ_4 e6 => ?_)
      have f7 := FR_sg e6
      exact wp_some ⟨(fun _ e => (by cases e)), hσ_4, (FR_tr (ms := [kI_x, kI_y]) (FR_le (ms := [kI_x, kI_y]) f5 (by decide)) f7 (by decide) (by decide))⟩
theorem s_R_has {σ : SG} {slot_0 : Int} (hσ : II σ) (qslot_0 : 0 ≤ slot_0 ∧ slot_0 ≤ 31) : wp_ (fR_has σ slot_0) (fun r => True) := by
  unfold fR_has
  refine wp_bd (P := fun r => True) ?_ ?_
  · have c1 := w32_rng slot_0
    refine wp_rdI (by (try dsimp only) <;> first | omega | ((try simp (disch := omega) only [w32_of, w64_of, w8_of]) <;> first | omega | (split <;> omega) | (refine And.intro ?_ ?_ <;> split <;> omega))) (by (try dsimp only) <;> first | omega | ((try simp (disch := omega) only [w32_of, w64_of, w8_of]) <;> first | omega | (split <;> omega) | (refine And.intro ?_ ?_ <;> split <;> omega))) (fun x_1 e2 => ?_)
    have b3 : 0 ≤ x_1 ∧ x_1 ≤ 2048 := by rw [e2]; exact ii_kR_planMany hσ _
    have c5 := w32_rng x_1
    refine wp_if (fun h4 => ?_) (fun h4 => ?_)
    · try simp (disch := omega) only [w32_of, w64_of, w8_of, decide_eq_true_eq, decide_eq_false_iff_not] at h4
      exact wp_some True.intro
    · try simp (disch := omega) only [w32_of, w64_of, w8_of, decide_eq_true_eq, decide_eq_false_iff_not] at h4
      exact wp_some True.intro
  rintro x_6 _ g6
  exact wp_some True.intro
theorem s_R_clear {σ : SG} {slot_0 : Int} (hσ : II σ) (qslot_0 : 0 ≤ slot_0 ∧ slot_0 ≤ 32) : wp_ (fR_clear σ slot_0) (fun r => II r ∧ FR [kR_planMany, kR_pointMany] σ r) := by
  unfold fR_clear
  have c1 := w32_rng slot_0
  refine wp_waI hσ b_kR_planMany (by (try dsimp only) <;> first | omega | ((try simp (disch := omega) only [w32_of, w64_of, w8_of]) <;> first | omega | (split <;> omega) | (refine And.intro ?_ ?_ <;> split <;> omega))) (by (try dsimp only) <;> first | omega | ((try simp (disch := omega) only [w32_of, w64_of, w8_of]) <;> first | omega | (split <;> omega) | (refine And.intro ?_ ?_ <;> split <;> omega))) (by (try dsimp only) <;> first | omega | ((try simp (disch := omega) only [w32_of, w64_of, w8_of]) <;> first | omega | (split <;> omega) | (refine And.intro ?_ ?_ <;> split <;> omega))) (fun σ_1 hσ_1 e2 => ?_)
  have f3 := FR_sg e2
  refine wp_waI hσ_1 b_kR_pointMany (by (try dsimp only) <;> first | omega | ((try simp (disch := omega) only [w32_of, w64_of, w8_of]) <;> first | omega | (split <;> omega) | (refine And.intro ?_ ?_ <;> split <;> omega))) (by (try dsimp only) <;> first | omega | ((try simp (disch := omega) only [w32_of, w64_of, w8_of]) <;> first | omega | (split <;> omega) | (refine And.intro ?_ ?_ <;> split <;> omega))) (by (try dsimp only) <;> first | omega | ((try simp (disch := omega) only [w32_of, w64_of, w8_of]) <;> first | omega | (split <;> omega) | (refine And.intro ?_ ?_ <;> split <;> omega))) (fun σ_3 hσ_3 e4 => ?_)
  have f5 := FR_sg e4
  exact wp_some ⟨hσ_3, (FR_tr (ms := [kR_planMany, kR_pointMany]) (FR_le (ms := [kR_planMany, kR_pointMany]) f3 (by decide)) f5 (by decide) (by decide))⟩
theorem s_R_move {σ : SG} {from_0 : Int} {to_0 : Int} (hσ : II σ) (qfrom_0 : 0 ≤ from_0 ∧ from_0 ≤ 32) (qto_0 : 0 ≤ to_0 ∧ to_0 ≤ 31) : wp_ (fR_move σ from_0 to_0) (fun r => II r ∧ FR [kR_plan, kR_planMany, kR_pointMany, kR_xs, kR_ys] σ r) := by
  unfold fR_move
  refine wp_bd (P := fun r => (0 ≤ r.1 ∧ r.1 ≤ 2048) ∧ II r.2 ∧ FR [kR_plan] σ r.2) ?_ ?_
  · refine wp_whl (fun s => (0 ≤ s.1 ∧ s.1 ≤ 2048) ∧ II s.2 ∧ FR [kR_plan] σ s.2) (fun s => (2049 - s.1).toNat) ⟨(by (try dsimp only) <;> first | omega | ((try simp (disch := omega) only [w32_of, w64_of, w8_of]) <;> first | omega | (split <;> omega) | (refine And.intro ?_ ?_ <;> split <;> omega))), hσ, (FR_refl _ _)⟩ ?_
    rintro ⟨k_1, σ_2⟩ y3
    dsimp only at y3 ⊢
    obtain ⟨g1, hσ_2, f2⟩ := y3
    have c4 := w32_rng from_0
    refine wp_rdI (by (try dsimp only) <;> first | omega | ((try simp (disch := omega) only [w32_of, w64_of, w8_of]) <;> first | omega | (split <;> omega) | (refine And.intro ?_ ?_ <;> split <;> omega))) (by (try dsimp only) <;> first | omega | ((try simp (disch := omega) only [w32_of, w64_of, w8_of]) <;> first | omega | (split <;> omega) | (refine And.intro ?_ ?_ <;> split <;> omega))) (fun x_10 e5 => ?_)
    have b6 : 0 ≤ x_10 ∧ x_10 ≤ 2048 := by rw [e5]; exact ii_kR_planMany hσ_2 _
    have c8 := w32_rng k_1
    have c9 := w32_rng x_10
    refine wp_if (fun h7 => ?_) (fun h7 => ?_)
    · try simp (disch := omega) only [w32_of, w64_of, w8_of, decide_eq_true_eq, decide_eq_false_iff_not] at h7
      have c10 := w32_rng ((2048 * from_0) + k_1)
      refine wp_rdI (by (try dsimp only) <;> first | omega | ((try simp (disch := omega) only [w32_of, w64_of, w8_of]) <;> first | omega | (split <;> omega) | (refine And.intro ?_ ?_ <;> split <;> omega))) (by (try dsimp only) <;> first | omega | ((try simp (disch := omega) only [w32_of, w64_of, w8_of]) <;> first | omega | (split <;> omega) | (refine And.intro ?_ ?_ <;> split <;> omega))) (fun x_13 e11 => ?_)
      have c13 := w32_rng ((2048 * to_0) + k_1)
      refine wp_waN hσ_2 b_kR_plan (by (try dsimp only) <;> first | omega | ((try simp (disch := omega) only [w32_of, w64_of, w8_of]) <;> first | omega | (split <;> omega) | (refine And.intro ?_ ?_ <;> split <;> omega))) (by (try dsimp only) <;> first | omega | ((try simp (disch := omega) only [w32_of, w64_of, w8_of]) <;> first | omega | (split <;> omega) | (refine And.intro ?_ ?_ <;> split <;> omega))) (fun σ_15 hσ_15 e14 => ?_)
      have f15 := FR_sg e14
      exact wp_some ⟨fun _ e => by cases e; exact ⟨⟨(by (try dsimp only) <;> first | omega | ((try simp (disch := omega) only [w32_of, w64_of, w8_of]) <;> first | omega | (split <;> omega) | (refine And.intro ?_ ?_ <;> split <;> omega))), hσ_15, (FR_tr (ms := [kR_plan]) (FR_le (ms := [kR_plan]) f2 (by decide)) f15 (by decide) (by decide))⟩, by (try dsimp only) <;> first | omega | ((try simp (disch := omega) only [w32_of, w64_of, w8_of]) <;> first | omega | (split <;> omega) | (refine And.intro ?_ ?_ <;> split <;> omega))⟩, fun _ e => (by cases e)⟩
    · try simp (disch := omega) only [w32_of, w64_of, w8_of, decide_eq_true_eq, decide_eq_false_iff_not] at h7
      exact wp_some ⟨fun _ e => (by cases e), fun _ e => by cases e; exact ⟨(by (try dsimp only) <;> first | omega | ((try simp (disch := omega) only [w32_of, w64_of, w8_of]) <;> first | omega | (split <;> omega) | (refine And.intro ?_ ?_ <;> split <;> omega))), hσ_2, (FR_le (ms := [kR_plan]) f2 (by decide))⟩⟩
  rintro ⟨k_19, σ_20⟩ _ y18
  dsimp only at y18 ⊢
  obtain ⟨g16, hσ_20, f17⟩ := y18
  refine wp_bd (P := fun r => (0 ≤ r.1 ∧ r.1 ≤ 2048) ∧ II r.2 ∧ FR [kR_xs, kR_ys] σ_20 r.2) ?_ ?_
  · refine wp_whl (fun s => (0 ≤ s.1 ∧ s.1 ≤ 2048) ∧ II s.2 ∧ FR [kR_xs, kR_ys] σ_20 s.2) (fun s => (2049 - s.1).toNat) ⟨(by (try dsimp only) <;> first | omega | ((try simp (disch := omega) only [w32_of, w64_of, w8_of]) <;> first | omega | (split <;> omega) | (refine And.intro ?_ ?_ <;> split <;> omega))), hσ_20, (FR_refl _ _)⟩ ?_
    rintro ⟨k_21, σ_22⟩ y21
    dsimp only at y21 ⊢
    obtain ⟨g19, hσ_22, f20⟩ := y21
    have c22 := w32_rng from_0
    refine wp_rdI (by (try dsimp only) <;> first | omega | ((try simp (disch := omega) only [w32_of, w64_of, w8_of]) <;> first | omega | (split <;> omega) | (refine And.intro ?_ ?_ <;> split <;> omega))) (by (try dsimp only) <;> first | omega | ((try simp (disch := omega) only [w32_of, w64_of, w8_of]) <;> first | omega | (split <;> omega) | (refine And.intro ?_ ?_ <;> split <;> omega))) (fun x_30 e23 => ?_)
    have b24 : 0 ≤ x_30 ∧ x_30 ≤ 2048 := by rw [e23]; exact ii_kR_pointMany hσ_22 _
    have c26 := w32_rng k_21
    have c27 := w32_rng x_30
    refine wp_if (fun h25 => ?_) (fun h25 => ?_)
    · try simp (disch := omega) only [w32_of, w64_of, w8_of, decide_eq_true_eq, decide_eq_false_iff_not] at h25
      have c28 := w32_rng ((2048 * from_0) + k_21)
      refine wp_rdI (by (try dsimp only) <;> first | omega | ((try simp (disch := omega) only [w32_of, w64_of, w8_of]) <;> first | omega | (split <;> omega) | (refine And.intro ?_ ?_ <;> split <;> omega))) (by (try dsimp only) <;> first | omega | ((try simp (disch := omega) only [w32_of, w64_of, w8_of]) <;> first | omega | (split <;> omega) | (refine And.intro ?_ ?_ <;> split <;> omega))) (fun x_33 e29 => ?_)
      have b30 : (-1000000000) ≤ x_33 ∧ x_33 ≤ 1000000000 := by rw [e29]; exact ii_kR_xs hσ_22 _
      have c31 := w32_rng ((2048 * to_0) + k_21)
      refine wp_waI hσ_22 b_kR_xs (by (try dsimp only) <;> first | omega | ((try simp (disch := omega) only [w32_of, w64_of, w8_of]) <;> first | omega | (split <;> omega) | (refine And.intro ?_ ?_ <;> split <;> omega))) (by (try dsimp only) <;> first | omega | ((try simp (disch := omega) only [w32_of, w64_of, w8_of]) <;> first | omega | (split <;> omega) | (refine And.intro ?_ ?_ <;> split <;> omega))) (by (try dsimp only) <;> first | omega | ((try simp (disch := omega) only [w32_of, w64_of, w8_of]) <;> first | omega | (split <;> omega) | (refine And.intro ?_ ?_ <;> split <;> omega))) (fun σ_35 hσ_35 e32 => ?_)
      have f33 := FR_sg e32
      refine wp_rdI (by (try dsimp only) <;> first | omega | ((try simp (disch := omega) only [w32_of, w64_of, w8_of]) <;> first | omega | (split <;> omega) | (refine And.intro ?_ ?_ <;> split <;> omega))) (by (try dsimp only) <;> first | omega | ((try simp (disch := omega) only [w32_of, w64_of, w8_of]) <;> first | omega | (split <;> omega) | (refine And.intro ?_ ?_ <;> split <;> omega))) (fun x_37 e34 => ?_)
      have b35 : (-1000000000) ≤ x_37 ∧ x_37 ≤ 1000000000 := by rw [e34]; exact ii_kR_ys hσ_35 _
      refine wp_waI hσ_35 b_kR_ys (by (try dsimp only) <;> first | omega | ((try simp (disch := omega) only [w32_of, w64_of, w8_of]) <;> first | omega | (split <;> omega) | (refine And.intro ?_ ?_ <;> split <;> omega))) (by (try dsimp only) <;> first | omega | ((try simp (disch := omega) only [w32_of, w64_of, w8_of]) <;> first | omega | (split <;> omega) | (refine And.intro ?_ ?_ <;> split <;> omega))) (by (try dsimp only) <;> first | omega | ((try simp (disch := omega) only [w32_of, w64_of, w8_of]) <;> first | omega | (split <;> omega) | (refine And.intro ?_ ?_ <;> split <;> omega))) (fun σ_39 hσ_39 e36 => ?_)
      have f37 := FR_sg e36
      exact wp_some ⟨fun _ e => by cases e; exact ⟨⟨(by (try dsimp only) <;> first | omega | ((try simp (disch := omega) only [w32_of, w64_of, w8_of]) <;> first | omega | (split <;> omega) | (refine And.intro ?_ ?_ <;> split <;> omega))), hσ_39, (FR_tr (ms := [kR_xs, kR_ys]) (FR_tr (ms := [kR_xs, kR_ys]) (FR_le (ms := [kR_xs, kR_ys]) f20 (by decide)) f33 (by decide) (by decide)) f37 (by decide) (by decide))⟩, by (try dsimp only) <;> first | omega | ((try simp (disch := omega) only [w32_of, w64_of, w8_of]) <;> first | omega | (split <;> omega) | (refine And.intro ?_ ?_ <;> split <;> omega))⟩, fun _ e => (by cases e)⟩
    · try simp (disch := omega) only [w32_of, w64_of, w8_of, decide_eq_true_eq, decide_eq_false_iff_not] at h25
      exact wp_some ⟨fun _ e => (by cases e), fun _ e => by cases e; exact ⟨(by (try dsimp only) <;> first | omega | ((try simp (disch := omega) only [w32_of, w64_of, w8_of]) <;> first | omega | (split <;> omega) | (refine And.intro ?_ ?_ <;> split <;> omega))), hσ_22, (FR_le (ms := [kR_xs, kR_ys]) f20 (by decide))⟩⟩
  rintro ⟨k_43, σ_44⟩ _ y40
  dsimp only at y40 ⊢
  obtain ⟨g38, hσ_44, f39⟩ := y40
  have c41 := w32_rng from_0
  refine wp_rdI (by (try dsimp only) <;> first | omega | ((try simp (disch := omega) only [w32_of, w64_of, w8_of]) <;> first | omega | (split <;> omega) | (refine And.intro ?_ ?_ <;> split <;> omega))) (by (try dsimp only) <;> first | omega | ((try simp (disch := omega) only [w32_of, w64_of, w8_of]) <;> first | omega | (split <;> omega) | (refine And.intro ?_ ?_ <;> split <;> omega))) (fun x_45 e42 => ?_)
  have b43 : 0 ≤ x_45 ∧ x_45 ≤ 2048 := by rw [e42]; exact ii_kR_planMany hσ_44 _
  have c44 := w32_rng to_0
  refine wp_waI hσ_44 b_kR_planMany (by (try dsimp only) <;> first | omega | ((try simp (disch := omega) only [w32_of, w64_of, w8_of]) <;> first | omega | (split <;> omega) | (refine And.intro ?_ ?_ <;> split <;> omega))) (by (try dsimp only) <;> first | omega | ((try simp (disch := omega) only [w32_of, w64_of, w8_of]) <;> first | omega | (split <;> omega) | (refine And.intro ?_ ?_ <;> split <;> omega))) (by (try dsimp only) <;> first | omega | ((try simp (disch := omega) only [w32_of, w64_of, w8_of]) <;> first | omega | (split <;> omega) | (refine And.intro ?_ ?_ <;> split <;> omega))) (fun σ_47 hσ_47 e45 => ?_)
  have f46 := FR_sg e45
  refine wp_rdI (by (try dsimp only) <;> first | omega | ((try simp (disch := omega) only [w32_of, w64_of, w8_of]) <;> first | omega | (split <;> omega) | (refine And.intro ?_ ?_ <;> split <;> omega))) (by (try dsimp only) <;> first | omega | ((try simp (disch := omega) only [w32_of, w64_of, w8_of]) <;> first | omega | (split <;> omega) | (refine And.intro ?_ ?_ <;> split <;> omega))) (fun x_49 e47 => ?_)
  have b48 : 0 ≤ x_49 ∧ x_49 ≤ 2048 := by rw [e47]; exact ii_kR_pointMany hσ_47 _
  refine wp_waI hσ_47 b_kR_pointMany (by (try dsimp only) <;> first | omega | ((try simp (disch := omega) only [w32_of, w64_of, w8_of]) <;> first | omega | (split <;> omega) | (refine And.intro ?_ ?_ <;> split <;> omega))) (by (try dsimp only) <;> first | omega | ((try simp (disch := omega) only [w32_of, w64_of, w8_of]) <;> first | omega | (split <;> omega) | (refine And.intro ?_ ?_ <;> split <;> omega))) (by (try dsimp only) <;> first | omega | ((try simp (disch := omega) only [w32_of, w64_of, w8_of]) <;> first | omega | (split <;> omega) | (refine And.intro ?_ ?_ <;> split <;> omega))) (fun σ_51 hσ_51 e49 => ?_)
  have f50 := FR_sg e49
  exact wp_some ⟨hσ_51, (FR_tr (ms := [kR_plan, kR_planMany, kR_pointMany, kR_xs, kR_ys]) (FR_tr (ms := [kR_plan, kR_planMany, kR_pointMany, kR_xs, kR_ys]) (FR_tr (ms := [kR_plan, kR_planMany, kR_pointMany, kR_xs, kR_ys]) (FR_le (ms := [kR_plan, kR_planMany, kR_pointMany, kR_xs, kR_ys]) f17 (by decide)) f39 (by decide) (by decide)) f46 (by decide) (by decide)) f50 (by decide) (by decide))⟩
theorem s_R_tell {σ : SG} {v_0 : Int} (hσ : II σ) (w0 : ((σ kR_planMany 32) ≤ 2047)) (w1 : ((0 ≤ v_0) ∧ (v_0 ≤ 2048))) : wp_ (fR_tell σ v_0) (fun r => II r ∧ FR [kR_plan, kR_planMany] σ r ∧ ((r kR_planMany 32) = ((σ kR_planMany 32) + 1))) := by
  unfold fR_tell
  have c1 := ii_kR_planMany hσ 32
  refine wp_rdI (by (try dsimp only) <;> first | omega | ((try simp (disch := omega) only [w32_of, w64_of, w8_of]) <;> first | omega | (split <;> omega) | (refine And.intro ?_ ?_ <;> split <;> omega))) (by (try dsimp only) <;> first | omega | ((try simp (disch := omega) only [w32_of, w64_of, w8_of]) <;> first | omega | (split <;> omega) | (refine And.intro ?_ ?_ <;> split <;> omega))) (fun x_1 e2 => ?_)
  have b3 : 0 ≤ x_1 ∧ x_1 ≤ 2048 := by rw [e2]; exact ii_kR_planMany hσ _
  have c4 := w32_rng (65536 + x_1)
  refine wp_waN hσ b_kR_plan (by (try dsimp only) <;> first | omega | ((try simp (disch := omega) only [w32_of, w64_of, w8_of]) <;> first | omega | (split <;> omega) | (refine And.intro ?_ ?_ <;> split <;> omega))) (by (try dsimp only) <;> first | omega | ((try simp (disch := omega) only [w32_of, w64_of, w8_of]) <;> first | omega | (split <;> omega) | (refine And.intro ?_ ?_ <;> split <;> omega))) (fun σ_3 hσ_3 e5 => ?_)
  have f6 := FR_sg e5
  refine wp_rdI (by (try dsimp only) <;> first | omega | ((try simp (disch := omega) only [w32_of, w64_of, w8_of]) <;> first | omega | (split <;> omega) | (refine And.intro ?_ ?_ <;> split <;> omega))) (by (try dsimp only) <;> first | omega | ((try simp (disch := omega) only [w32_of, w64_of, w8_of]) <;> first | omega | (split <;> omega) | (refine And.intro ?_ ?_ <;> split <;> omega))) (fun x_5 e7 => ?_)
  have c9 := ii_kR_planMany hσ_3 32
  have c10 := FR_at f6 (c := kR_planMany) (by decide) 32
  have b8 : 0 ≤ x_5 ∧ x_5 ≤ 2048 := by rw [e7]; exact ii_kR_planMany hσ_3 _
  refine wp_waI hσ_3 b_kR_planMany (by (try dsimp only) <;> first | omega | ((try simp (disch := omega) only [w32_of, w64_of, w8_of]) <;> first | omega | (split <;> omega) | (refine And.intro ?_ ?_ <;> split <;> omega))) (by (try dsimp only) <;> first | omega | ((try simp (disch := omega) only [w32_of, w64_of, w8_of]) <;> first | omega | (split <;> omega) | (refine And.intro ?_ ?_ <;> split <;> omega))) (by (try dsimp only) <;> first | omega | ((try simp (disch := omega) only [w32_of, w64_of, w8_of]) <;> first | omega | (split <;> omega) | (refine And.intro ?_ ?_ <;> split <;> omega))) (fun σ_7 hσ_7 e11 => ?_)
  have f12 := FR_sg e11
  have c13 := ii_kR_planMany hσ_7 32
  have c14 := sg_val e11
  exact wp_some ⟨hσ_7, (FR_tr (ms := [kR_plan, kR_planMany]) (FR_le (ms := [kR_plan, kR_planMany]) f6 (by decide)) f12 (by decide) (by decide)), (by (try dsimp only) <;> first | omega | ((try simp (disch := omega) only [w32_of, w64_of, w8_of]) <;> first | omega | (split <;> omega) | (refine And.intro ?_ ?_ <;> split <;> omega)))⟩
theorem s_R_dot {σ : SG} {x_0 : Int} {y_0 : Int} (hσ : II σ) (qx_0 : (-9223372036854775808) ≤ x_0 ∧ x_0 ≤ 9223372036854775807) (qy_0 : (-9223372036854775808) ≤ y_0 ∧ y_0 ≤ 9223372036854775807) (w0 : ((σ kR_pointMany 32) ≤ 2047)) (w1 : (((-1000000000) ≤ x_0) ∧ (x_0 ≤ 1000000000))) (w2 : (((-1000000000) ≤ y_0) ∧ (y_0 ≤ 1000000000))) : wp_ (fR_dot σ x_0 y_0) (fun r => II r ∧ FR [kR_pointMany, kR_xs, kR_ys] σ r ∧ ((r kR_pointMany 32) = ((σ kR_pointMany 32) + 1))) := by
  unfold fR_dot
  have c1 := ii_kR_pointMany hσ 32
  refine wp_rdI (by (try dsimp only) <;> first | omega | ((try simp (disch := omega) only [w32_of, w64_of, w8_of]) <;> first | omega | (split <;> omega) | (refine And.intro ?_ ?_ <;> split <;> omega))) (by (try dsimp only) <;> first | omega | ((try simp (disch := omega) only [w32_of, w64_of, w8_of]) <;> first | omega | (split <;> omega) | (refine And.intro ?_ ?_ <;> split <;> omega))) (fun x_1 e2 => ?_)
  have b3 : 0 ≤ x_1 ∧ x_1 ≤ 2048 := by rw [e2]; exact ii_kR_pointMany hσ _
  have c4 := w32_rng (65536 + x_1)
  refine wp_waI hσ b_kR_xs (by (try dsimp only) <;> first | omega | ((try simp (disch := omega) only [w32_of, w64_of, w8_of]) <;> first | omega | (split <;> omega) | (refine And.intro ?_ ?_ <;> split <;> omega))) (by (try dsimp only) <;> first | omega | ((try simp (disch := omega) only [w32_of, w64_of, w8_of]) <;> first | omega | (split <;> omega) | (refine And.intro ?_ ?_ <;> split <;> omega))) (by (try dsimp only) <;> first | omega | ((try simp (disch := omega) only [w32_of, w64_of, w8_of]) <;> first | omega | (split <;> omega) | (refine And.intro ?_ ?_ <;> split <;> omega))) (fun σ_3 hσ_3 e5 => ?_)
  have f6 := FR_sg e5
  refine wp_rdI (by (try dsimp only) <;> first | omega | ((try simp (disch := omega) only [w32_of, w64_of, w8_of]) <;> first | omega | (split <;> omega) | (refine And.intro ?_ ?_ <;> split <;> omega))) (by (try dsimp only) <;> first | omega | ((try simp (disch := omega) only [w32_of, w64_of, w8_of]) <;> first | omega | (split <;> omega) | (refine And.intro ?_ ?_ <;> split <;> omega))) (fun x_5 e7 => ?_)
  have c9 := ii_kR_pointMany hσ_3 32
  have c10 := FR_at f6 (c := kR_pointMany) (by decide) 32
  have b8 : 0 ≤ x_5 ∧ x_5 ≤ 2048 := by rw [e7]; exact ii_kR_pointMany hσ_3 _
  have c11 := w32_rng (65536 + x_5)
  refine wp_waI hσ_3 b_kR_ys (by (try dsimp only) <;> first | omega | ((try simp (disch := omega) only [w32_of, w64_of, w8_of]) <;> first | omega | (split <;> omega) | (refine And.intro ?_ ?_ <;> split <;> omega))) (by (try dsimp only) <;> first | omega | ((try simp (disch := omega) only [w32_of, w64_of, w8_of]) <;> first | omega | (split <;> omega) | (refine And.intro ?_ ?_ <;> split <;> omega))) (by (try dsimp only) <;> first | omega | ((try simp (disch := omega) only [w32_of, w64_of, w8_of]) <;> first | omega | (split <;> omega) | (refine And.intro ?_ ?_ <;> split <;> omega))) (fun σ_7 hσ_7 e12 => ?_)
  have f13 := FR_sg e12
  refine wp_rdI (by (try dsimp only) <;> first | omega | ((try simp (disch := omega) only [w32_of, w64_of, w8_of]) <;> first | omega | (split <;> omega) | (refine And.intro ?_ ?_ <;> split <;> omega))) (by (try dsimp only) <;> first | omega | ((try simp (disch := omega) only [w32_of, w64_of, w8_of]) <;> first | omega | (split <;> omega) | (refine And.intro ?_ ?_ <;> split <;> omega))) (fun x_9 e14 => ?_)
  have c16 := ii_kR_pointMany hσ_7 32
  have c17 := FR_at f13 (c := kR_pointMany) (by decide) 32
  have b15 : 0 ≤ x_9 ∧ x_9 ≤ 2048 := by rw [e14]; exact ii_kR_pointMany hσ_7 _
  refine wp_waI hσ_7 b_kR_pointMany (by (try dsimp only) <;> first | omega | ((try simp (disch := omega) only [w32_of, w64_of, w8_of]) <;> first | omega | (split <;> omega) | (refine And.intro ?_ ?_ <;> split <;> omega))) (by (try dsimp only) <;> first | omega | ((try simp (disch := omega) only [w32_of, w64_of, w8_of]) <;> first | omega | (split <;> omega) | (refine And.intro ?_ ?_ <;> split <;> omega))) (by (try dsimp only) <;> first | omega | ((try simp (disch := omega) only [w32_of, w64_of, w8_of]) <;> first | omega | (split <;> omega) | (refine And.intro ?_ ?_ <;> split <;> omega))) (fun σ_11 hσ_11 e18 => ?_)
  have f19 := FR_sg e18
  have c20 := ii_kR_pointMany hσ_11 32
  have c21 := sg_val e18
  exact wp_some ⟨hσ_11, (FR_tr (ms := [kR_pointMany, kR_xs, kR_ys]) (FR_tr (ms := [kR_pointMany, kR_xs, kR_ys]) (FR_le (ms := [kR_pointMany, kR_xs, kR_ys]) f6 (by decide)) f13 (by decide) (by decide)) f19 (by decide) (by decide)), (by (try dsimp only) <;> first | omega | ((try simp (disch := omega) only [w32_of, w64_of, w8_of]) <;> first | omega | (split <;> omega) | (refine And.intro ?_ ?_ <;> split <;> omega)))⟩
theorem s_R_four {σ : SG} {v_0 : Int} (hσ : II σ) (qv_0 : (-2147483648) ≤ v_0 ∧ v_0 ≤ 2147483647) (w0 : ((σ kR_tapeMany 0) ≤ 65532)) : wp_ (fR_four σ v_0) (fun r => II r ∧ FR [kR_tape, kR_tapeMany] σ r ∧ ((r kR_tapeMany 0) = ((σ kR_tapeMany 0) + 4))) := by
  unfold fR_four
  have c1 := ii_kR_tapeMany hσ 0
  refine wp_bd (P := fun r => ((-8) ≤ r.1 ∧ r.1 ≤ (-1)) ∧ II r.2 ∧ FR [kR_tape, kR_tapeMany] σ r.2 ∧ ((r.2 kR_tapeMany 0) = ((σ kR_tapeMany 0) + 4))) ?_ ?_
  · refine wp_whl (fun s => ((-8) ≤ s.1 ∧ s.1 ≤ 24) ∧ II s.2 ∧ FR [kR_tape, kR_tapeMany] σ s.2 ∧ (((8 * (s.2 kR_tapeMany 0)) + s.1) = ((8 * (σ kR_tapeMany 0)) + 24))) (fun s => (s.1 - (-16)).toNat) ⟨(by (try dsimp only) <;> first | omega | ((try simp (disch := omega) only [w32_of, w64_of, w8_of]) <;> first | omega | (split <;> omega) | (refine And.intro ?_ ?_ <;> split <;> omega))), hσ, (FR_refl _ _), (by (try dsimp only) <;> first | omega | ((try simp (disch := omega) only [w32_of, w64_of, w8_of]) <;> first | omega | (split <;> omega) | (refine And.intro ?_ ?_ <;> split <;> omega)))⟩ ?_
    rintro ⟨k_1, σ_2⟩ y5
    dsimp only at y5 ⊢
    obtain ⟨g2, hσ_2, f3, x4⟩ := y5
    have c7 := w32_rng k_1
    refine wp_if (fun h6 => ?_) (fun h6 => ?_)
    · try simp (disch := omega) only [w32_of, w64_of, w8_of, decide_eq_true_eq, decide_eq_false_iff_not] at h6
      have c8 := q_isr_rng v_0 k_1
      have c9 := w8_rng (q_isr v_0 k_1)
      have c10 := ii_kR_tapeMany hσ_2 0
      have c11 := w32_rng (σ_2 kR_tapeMany 0)
      refine wp_waI hσ_2 b_kR_tape (by (try dsimp only) <;> first | omega | ((try simp (disch := omega) only [w32_of, w64_of, w8_of]) <;> first | omega | (split <;> omega) | (refine And.intro ?_ ?_ <;> split <;> omega))) (by (try dsimp only) <;> first | omega | ((try simp (disch := omega) only [w32_of, w64_of, w8_of]) <;> first | omega | (split <;> omega) | (refine And.intro ?_ ?_ <;> split <;> omega))) (by (try dsimp only) <;> first | omega | ((try simp (disch := omega) only [w32_of, w64_of, w8_of]) <;> first | omega | (split <;> omega) | (refine And.intro ?_ ?_ <;> split <;> omega))) (fun σ_11 hσ_11 e12 => ?_)
      have f13 := FR_sg e12
      have c14 := ii_kR_tapeMany hσ_11 0
      have c15 := FR_at f13 (c := kR_tapeMany) (by decide) 0
      refine wp_wfI hσ_11 b_kR_tapeMany (by (try dsimp only) <;> first | omega | ((try simp (disch := omega) only [w32_of, w64_of, w8_of]) <;> first | omega | (split <;> omega) | (refine And.intro ?_ ?_ <;> split <;> omega))) (fun σ_13 hσ_13 e16 => ?_)
      have f17 := FR_sg e16
      have c18 := ii_kR_tapeMany hσ_13 0
      have c19 := sg_val e16
      exact wp_some ⟨fun _ e => by cases e; exact ⟨⟨(by (try dsimp only) <;> first | omega | ((try simp (disch := omega) only [w32_of, w64_of, w8_of]) <;> first | omega | (split <;> omega) | (refine And.intro ?_ ?_ <;> split <;> omega))), hσ_13, (FR_tr (ms := [kR_tape, kR_tapeMany]) (FR_tr (ms := [kR_tape, kR_tapeMany]) (FR_le (ms := [kR_tape, kR_tapeMany]) f3 (by decide)) f13 (by decide) (by decide)) f17 (by decide) (by decide)), (by (try dsimp only) <;> first | omega | ((try simp (disch := omega) only [w32_of, w64_of, w8_of]) <;> first | omega | (split <;> omega) | (refine And.intro ?_ ?_ <;> split <;> omega)))⟩, by (try dsimp only) <;> first | omega | ((try simp (disch := omega) only [w32_of, w64_of, w8_of]) <;> first | omega | (split <;> omega) | (refine And.intro ?_ ?_ <;> split <;> omega))⟩, fun _ e => (by cases e)⟩
    · try simp (disch := omega) only [w32_of, w64_of, w8_of, decide_eq_true_eq, decide_eq_false_iff_not] at h6
      have c20 := ii_kR_tapeMany hσ_2 0
      exact wp_some ⟨fun _ e => (by cases e), fun _ e => by cases e; exact ⟨(by (try dsimp only) <;> first | omega | ((try simp (disch := omega) only [w32_of, w64_of, w8_of]) <;> first | omega | (split <;> omega) | (refine And.intro ?_ ?_ <;> split <;> omega))), hσ_2, (FR_le (ms := [kR_tape, kR_tapeMany]) f3 (by decide)), (by (try dsimp only) <;> first | omega | ((try simp (disch := omega) only [w32_of, w64_of, w8_of]) <;> first | omega | (split <;> omega) | (refine And.intro ?_ ?_ <;> split <;> omega)))⟩⟩
  rintro ⟨k_16, σ_17⟩ _ y24
  dsimp only at y24 ⊢
  obtain ⟨g22, hσ_17, f23, x21⟩ := y24
  have c25 := ii_kR_tapeMany hσ_17 0
  exact wp_some ⟨hσ_17, (FR_le (ms := [kR_tape, kR_tapeMany]) f23 (by decide)), (by (try dsimp only) <;> first | omega | ((try simp (disch := omega) only [w32_of, w64_of, w8_of]) <;> first | omega | (split <;> omega) | (refine And.intro ?_ ?_ <;> split <;> omega)))⟩
theorem s_R_feed {σ : SG} {a_0 : Int} {b_0 : Int} {c_0 : Int} {d_0 : Int} {e_0 : Int} (hσ : II σ) (qa_0 : (-2147483648) ≤ a_0 ∧ a_0 ≤ 2147483647) (qb_0 : (-2147483648) ≤ b_0 ∧ b_0 ≤ 2147483647) (qc_0 : (-2147483648) ≤ c_0 ∧ c_0 ≤ 2147483647) (qd_0 : (-2147483648) ≤ d_0 ∧ d_0 ≤ 2147483647) (qe_0 : (-2147483648) ≤ e_0 ∧ e_0 ≤ 2147483647) : wp_ (fR_feed σ a_0 b_0 c_0 d_0 e_0) (fun r => (0 ≤ r.1 ∧ r.1 ≤ 65536) ∧ II r.2 ∧ FR [kR_tape, kR_tapeMany, kR_thrown] σ r.2) := by
  unfold fR_feed
  refine wp_wfI hσ b_kR_thrown (by (try dsimp only) <;> first | omega | ((try simp (disch := omega) only [w32_of, w64_of, w8_of]) <;> first | omega | (split <;> omega) | (refine And.intro ?_ ?_ <;> split <;> omega))) (fun σ_1 hσ_1 e1 => ?_)
  have f2 := FR_sg e1
  have c3 := ii_kR_tapeMany hσ_1 0
  have c4 := FR_at f2 (c := kR_tapeMany) (by decide) 0
  have c5 := ii_kR_tapeMany hσ 0
  have c6 := w32_rng ((σ_1 kR_tapeMany 0) + 20)
  refine wp_bd (s_R_fails (σ := σ_1) (is_0 := (decide (65536 < (w32 ((σ_1 kR_tapeMany 0) + 20))))) (which_0 := 1) hσ_1 (by (try dsimp only) <;> first | omega | ((try simp (disch := omega) only [w32_of, w64_of, w8_of]) <;> first | omega | (split <;> omega) | (refine And.intro ?_ ?_ <;> split <;> omega)))) ?_
  rintro ⟨x_5, σ_4⟩ _ y9
  dsimp only at y9 ⊢
  obtain ⟨g7, hσ_4, f8⟩ := y9
  refine wp_if (fun h10 => ?_) (fun h10 => ?_)
  · try simp (disch := omega) only [w32_of, w64_of, w8_of, decide_eq_true_eq, decide_eq_false_iff_not] at h10
    exact wp_some ⟨(by (try dsimp only) <;> first | omega | ((try simp (disch := omega) only [w32_of, w64_of, w8_of]) <;> first | omega | (split <;> omega) | (refine And.intro ?_ ?_ <;> split <;> omega))), hσ_4, (FR_tr (ms := [kR_tape, kR_tapeMany, kR_thrown]) (FR_le (ms := [kR_tape, kR_tapeMany, kR_thrown]) f2 (by decide)) f8 (by decide) (by decide))⟩
  · have k11 := g7 (Bool.eq_false_iff.mpr h10)
    try simp (disch := omega) only [fR_isSlot, fR_in, decide_eq_false_iff_not, decide_eq_true_eq, Decidable.not_not, not_or, w32_of, w64_of] at k11
    try simp (disch := omega) only [w32_of, w64_of, w8_of, decide_eq_true_eq, decide_eq_false_iff_not] at h10
    have c12 := ii_kR_tapeMany hσ_4 0
    have c13 := FR_at f8 (c := kR_tapeMany) (by decide) 0
    refine wp_bd (s_R_four (σ := σ_4) (v_0 := a_0) hσ_4 (by (try dsimp only) <;> first | omega | ((try simp (disch := omega) only [w32_of, w64_of, w8_of]) <;> first | omega | (split <;> omega) | (refine And.intro ?_ ?_ <;> split <;> omega))) (by (try dsimp only) <;> first | omega | ((try simp (disch := omega) only [w32_of, w64_of, w8_of]) <;> first | omega | (split <;> omega) | (refine And.intro ?_ ?_ <;> split <;> omega)))) ?_
    rintro σ_8 _ ⟨hσ_8, f15, x14⟩
    have c16 := ii_kR_tapeMany hσ_8 0
    refine wp_bd (s_R_four (σ := σ_8) (v_0 := b_0) hσ_8 (by (try dsimp only) <;> first | omega | ((try simp (disch := omega) only [w32_of, w64_of, w8_of]) <;> first | omega | (split <;> omega) | (refine And.intro ?_ ?_ <;> split <;> omega))) (by (try dsimp only) <;> first | omega | ((try simp (disch := omega) only [w32_of, w64_of, w8_of]) <;> first | omega | (split <;> omega) | (refine And.intro ?_ ?_ <;> split <;> omega)))) ?_
    rintro σ_10 _ ⟨hσ_10, f18, x17⟩
    have c19 := ii_kR_tapeMany hσ_10 0
    refine wp_bd (s_R_four (σ := σ_10) (v_0 := c_0) hσ_10 (by (try dsimp only) <;> first | omega | ((try simp (disch := omega) only [w32_of, w64_of, w8_of]) <;> first | omega | (split <;> omega) | (refine And.intro ?_ ?_ <;> split <;> omega))) (by (try dsimp only) <;> first | omega | ((try simp (disch := omega) only [w32_of, w64_of, w8_of]) <;> first | omega | (split <;> omega) | (refine And.intro ?_ ?_ <;> split <;> omega)))) ?_
    rintro σ_12 _ ⟨hσ_12, f21, x20⟩
    have c22 := ii_kR_tapeMany hσ_12 0
    refine wp_bd (s_R_four (σ := σ_12) (v_0 := d_0) hσ_12 (by (try dsimp only) <;> first | omega | ((try simp (disch := omega) only [w32_of, w64_of, w8_of]) <;> first | omega | (split <;> omega) | (refine And.intro ?_ ?_ <;> split <;> omega))) (by (try dsimp only) <;> first | omega | ((try simp (disch := omega) only [w32_of, w64_of, w8_of]) <;> first | omega | (split <;> omega) | (refine And.intro ?_ ?_ <;> split <;> omega)))) ?_
    rintro σ_14 _ ⟨hσ_14, f24, x23⟩
    have c25 := ii_kR_tapeMany hσ_14 0
    refine wp_bd (s_R_four (σ := σ_14) (v_0 := e_0) hσ_14 (by (try dsimp only) <;> first | omega | ((try simp (disch := omega) only [w32_of, w64_of, w8_of]) <;> first | omega | (split <;> omega) | (refine And.intro ?_ ?_ <;> split <;> omega))) (by (try dsimp only) <;> first | omega | ((try simp (disch := omega) only [w32_of, w64_of, w8_of]) <;> first | omega | (split <;> omega) | (refine And.intro ?_ ?_ <;> split <;> omega)))) ?_
    rintro σ_16 _ ⟨hσ_16, f27, x26⟩
    have c28 := ii_kR_tapeMany hσ_16 0
    exact wp_some ⟨(by (try dsimp only) <;> first | omega | ((try simp (disch := omega) only [w32_of, w64_of, w8_of]) <;> first | omega | (split <;> omega) | (refine And.intro ?_ ?_ <;> split <;> omega))), hσ_16, (FR_tr (ms := [kR_tape, kR_tapeMany, kR_thrown]) (FR_tr (ms := [kR_tape, kR_tapeMany, kR_thrown]) (FR_tr (ms := [kR_tape, kR_tapeMany, kR_thrown]) (FR_tr (ms := [kR_tape, kR_tapeMany, kR_thrown]) (FR_tr (ms := [kR_tape, kR_tapeMany, kR_thrown]) (FR_tr (ms := [kR_tape, kR_tapeMany, kR_thrown]) (FR_le (ms := [kR_tape, kR_tapeMany, kR_thrown]) f2 (by decide)) f8 (by decide) (by decide)) f15 (by decide) (by decide)) f18 (by decide) (by decide)) f21 (by decide) (by decide)) f24 (by decide) (by decide)) f27 (by decide) (by decide))⟩
theorem s_R_end {σ : SG} {n_0 : Int} (hσ : II σ) (qn_0 : (-2147483648) ≤ n_0 ∧ n_0 ≤ 2147483647) : wp_ (fR_end σ n_0) (fun r => (0 ≤ r.1 ∧ r.1 ≤ 65536) ∧ II r.2 ∧ FR [kR_tapeMany, kR_thrown] σ r.2) := by
  unfold fR_end
  refine wp_wfI hσ b_kR_thrown (by (try dsimp only) <;> first | omega | ((try simp (disch := omega) only [w32_of, w64_of, w8_of]) <;> first | omega | (split <;> omega) | (refine And.intro ?_ ?_ <;> split <;> omega))) (fun σ_1 hσ_1 e1 => ?_)
  have f2 := FR_sg e1
  have c3 := w32_rng n_0
  refine wp_bd (s_R_fails (σ := σ_1) (is_0 := (decide (¬ ((fR_in (w32 n_0) 0 20) = true)))) (which_0 := 1) hσ_1 (by (try dsimp only) <;> first | omega | ((try simp (disch := omega) only [w32_of, w64_of, w8_of]) <;> first | omega | (split <;> omega) | (refine And.intro ?_ ?_ <;> split <;> omega)))) ?_
  rintro ⟨x_20, σ_19⟩ _ y6
  dsimp only at y6 ⊢
  obtain ⟨g4, hσ_19, f5⟩ := y6
  refine wp_if (fun h7 => ?_) (fun h7 => ?_)
  · try simp (disch := omega) only [w32_of, w64_of, w8_of, decide_eq_true_eq, decide_eq_false_iff_not] at h7
    exact wp_some ⟨(by (try dsimp only) <;> first | omega | ((try simp (disch := omega) only [w32_of, w64_of, w8_of]) <;> first | omega | (split <;> omega) | (refine And.intro ?_ ?_ <;> split <;> omega))), hσ_19, (FR_tr (ms := [kR_tapeMany, kR_thrown]) (FR_le (ms := [kR_tapeMany, kR_thrown]) f2 (by decide)) f5 (by decide) (by decide))⟩
  · have k8 := g4 (Bool.eq_false_iff.mpr h7)
    try simp (disch := omega) only [fR_isSlot, fR_in, decide_eq_false_iff_not, decide_eq_true_eq, Decidable.not_not, not_or, w32_of, w64_of] at k8
    try simp (disch := omega) only [w32_of, w64_of, w8_of, decide_eq_true_eq, decide_eq_false_iff_not] at h7
    have c9 := ii_kR_tapeMany hσ_19 0
    have c10 := FR_at f5 (c := kR_tapeMany) (by decide) 0
    have c11 := ii_kR_tapeMany hσ_1 0
    have c12 := FR_at f2 (c := kR_tapeMany) (by decide) 0
    have c13 := ii_kR_tapeMany hσ 0
    have c14 := w32_rng (σ_19 kR_tapeMany 0)
    refine wp_bd (s_R_fails (σ := σ_19) (is_0 := (decide ((w32 (σ_19 kR_tapeMany 0)) < 20))) (which_0 := 2) hσ_19 (by (try dsimp only) <;> first | omega | ((try simp (disch := omega) only [w32_of, w64_of, w8_of]) <;> first | omega | (split <;> omega) | (refine And.intro ?_ ?_ <;> split <;> omega)))) ?_
    rintro ⟨x_25, σ_24⟩ _ y17
    dsimp only at y17 ⊢
    obtain ⟨g15, hσ_24, f16⟩ := y17
    refine wp_if (fun h18 => ?_) (fun h18 => ?_)
    · try simp (disch := omega) only [w32_of, w64_of, w8_of, decide_eq_true_eq, decide_eq_false_iff_not] at h18
      exact wp_some ⟨(by (try dsimp only) <;> first | omega | ((try simp (disch := omega) only [w32_of, w64_of, w8_of]) <;> first | omega | (split <;> omega) | (refine And.intro ?_ ?_ <;> split <;> omega))), hσ_24, (FR_tr (ms := [kR_tapeMany, kR_thrown]) (FR_tr (ms := [kR_tapeMany, kR_thrown]) (FR_le (ms := [kR_tapeMany, kR_thrown]) f2 (by decide)) f5 (by decide) (by decide)) f16 (by decide) (by decide))⟩
    · have k19 := g15 (Bool.eq_false_iff.mpr h18)
      try simp (disch := omega) only [fR_isSlot, fR_in, decide_eq_false_iff_not, decide_eq_true_eq, Decidable.not_not, not_or, w32_of, w64_of] at k19
      try simp (disch := omega) only [w32_of, w64_of, w8_of, decide_eq_true_eq, decide_eq_false_iff_not] at h18
      have c20 := ii_kR_tapeMany hσ_24 0
      have c21 := FR_at f16 (c := kR_tapeMany) (by decide) 0
      refine wp_wfI hσ_24 b_kR_tapeMany (by (try dsimp only) <;> first | omega | ((try simp (disch := omega) only [w32_of, w64_of, w8_of]) <;> first | omega | (split <;> omega) | (refine And.intro ?_ ?_ <;> split <;> omega))) (fun σ_27 hσ_27 e22 => ?_)
      have f23 := FR_sg e22
      have c24 := ii_kR_tapeMany hσ_27 0
      have c25 := sg_val e22
      exact wp_some ⟨(by (try dsimp only) <;> first | omega | ((try simp (disch := omega) only [w32_of, w64_of, w8_of]) <;> first | omega | (split <;> omega) | (refine And.intro ?_ ?_ <;> split <;> omega))), hσ_27, (FR_tr (ms := [kR_tapeMany, kR_thrown]) (FR_tr (ms := [kR_tapeMany, kR_thrown]) (FR_tr (ms := [kR_tapeMany, kR_thrown]) (FR_le (ms := [kR_tapeMany, kR_thrown]) f2 (by decide)) f5 (by decide) (by decide)) f16 (by decide) (by decide)) f23 (by decide) (by decide))⟩
theorem s_R_again {σ : SG} (hσ : II σ) : wp_ (fR_again σ) (fun r => (0 ≤ r.1 ∧ r.1 ≤ 65536) ∧ II r.2 ∧ FR [kR_tape, kR_tapeMany, kR_thrown] σ r.2) := by
  unfold fR_again
  refine wp_wfI hσ b_kR_thrown (by (try dsimp only) <;> first | omega | ((try simp (disch := omega) only [w32_of, w64_of, w8_of]) <;> first | omega | (split <;> omega) | (refine And.intro ?_ ?_ <;> split <;> omega))) (fun σ_1 hσ_1 e1 => ?_)
  have f2 := FR_sg e1
  have c3 := ii_kR_resultMany hσ_1 0
  have c4 := FR_at f2 (c := kR_resultMany) (by decide) 0
  have c5 := ii_kR_resultMany hσ 0
  have c6 := w32_rng (σ_1 kR_resultMany 0)
  refine wp_wfI hσ_1 b_kR_tapeMany (by (try dsimp only) <;> first | omega | ((try simp (disch := omega) only [w32_of, w64_of, w8_of]) <;> first | omega | (split <;> omega) | (refine And.intro ?_ ?_ <;> split <;> omega))) (fun σ_3 hσ_3 e7 => ?_)
  have f8 := FR_sg e7
  refine wp_bd (P := fun r => (0 ≤ r.1 ∧ r.1 ≤ 65536) ∧ II r.2 ∧ FR [kR_tape] σ_3 r.2) ?_ ?_
  · refine wp_whl (fun s => (0 ≤ s.1 ∧ s.1 ≤ 65536) ∧ II s.2 ∧ FR [kR_tape] σ_3 s.2) (fun s => (65537 - s.1).toNat) ⟨(by (try dsimp only) <;> first | omega | ((try simp (disch := omega) only [w32_of, w64_of, w8_of]) <;> first | omega | (split <;> omega) | (refine And.intro ?_ ?_ <;> split <;> omega))), hσ_3, (FR_refl _ _)⟩ ?_
    rintro ⟨k_4, σ_5⟩ y11
    dsimp only at y11 ⊢
    obtain ⟨g9, hσ_5, f10⟩ := y11
    have c13 := w32_rng k_4
    have c14 := ii_kR_tapeMany hσ_5 0
    have c15 := FR_at f10 (c := kR_tapeMany) (by decide) 0
    have c16 := ii_kR_tapeMany hσ_3 0
    have c17 := sg_val e7
    have c18 := w32_rng (σ_5 kR_tapeMany 0)
    refine wp_if (fun h12 => ?_) (fun h12 => ?_)
    · try simp (disch := omega) only [w32_of, w64_of, w8_of, decide_eq_true_eq, decide_eq_false_iff_not] at h12
      refine wp_rdI (by (try dsimp only) <;> first | omega | ((try simp (disch := omega) only [w32_of, w64_of, w8_of]) <;> first | omega | (split <;> omega) | (refine And.intro ?_ ?_ <;> split <;> omega))) (by (try dsimp only) <;> first | omega | ((try simp (disch := omega) only [w32_of, w64_of, w8_of]) <;> first | omega | (split <;> omega) | (refine And.intro ?_ ?_ <;> split <;> omega))) (fun x_14 e19 => ?_)
      have b20 : (-128) ≤ x_14 ∧ x_14 ≤ 127 := by rw [e19]; exact ii_kR_result hσ_5 _
      have c21 := w8_rng x_14
      refine wp_waI hσ_5 b_kR_tape (by (try dsimp only) <;> first | omega | ((try simp (disch := omega) only [w32_of, w64_of, w8_of]) <;> first | omega | (split <;> omega) | (refine And.intro ?_ ?_ <;> split <;> omega))) (by (try dsimp only) <;> first | omega | ((try simp (disch := omega) only [w32_of, w64_of, w8_of]) <;> first | omega | (split <;> omega) | (refine And.intro ?_ ?_ <;> split <;> omega))) (by (try dsimp only) <;> first | omega | ((try simp (disch := omega) only [w32_of, w64_of, w8_of]) <;> first | omega | (split <;> omega) | (refine And.intro ?_ ?_ <;> split <;> omega))) (fun σ_16 hσ_16 e22 => ?_)
      have f23 := FR_sg e22
      exact wp_some ⟨fun _ e => by cases e; exact ⟨⟨(by (try dsimp only) <;> first | omega | ((try simp (disch := omega) only [w32_of, w64_of, w8_of]) <;> first | omega | (split <;> omega) | (refine And.intro ?_ ?_ <;> split <;> omega))), hσ_16, (FR_tr (ms := [kR_tape]) (FR_le (ms := [kR_tape]) f10 (by decide)) f23 (by decide) (by decide))⟩, by (try dsimp only) <;> first | omega | ((try simp (disch := omega) only [w32_of, w64_of, w8_of]) <;> first | omega | (split <;> omega) | (refine And.intro ?_ ?_ <;> split <;> omega))⟩, fun _ e => (by cases e)⟩
    · try simp (disch := omega) only [w32_of, w64_of, w8_of, decide_eq_true_eq, decide_eq_false_iff_not] at h12
      exact wp_some ⟨fun _ e => (by cases e), fun _ e => by cases e; exact ⟨(by (try dsimp only) <;> first | omega | ((try simp (disch := omega) only [w32_of, w64_of, w8_of]) <;> first | omega | (split <;> omega) | (refine And.intro ?_ ?_ <;> split <;> omega))), hσ_5, (FR_le (ms := [kR_tape]) f10 (by decide))⟩⟩
  rintro ⟨k_20, σ_21⟩ _ y26
  dsimp only at y26 ⊢
  obtain ⟨g24, hσ_21, f25⟩ := y26
  have c27 := ii_kR_tapeMany hσ_21 0
  have c28 := FR_at f25 (c := kR_tapeMany) (by decide) 0
  have c29 := ii_kR_tapeMany hσ_3 0
  have c30 := sg_val e7
  exact wp_some ⟨(by (try dsimp only) <;> first | omega | ((try simp (disch := omega) only [w32_of, w64_of, w8_of]) <;> first | omega | (split <;> omega) | (refine And.intro ?_ ?_ <;> split <;> omega))), hσ_21, (FR_tr (ms := [kR_tape, kR_tapeMany, kR_thrown]) (FR_tr (ms := [kR_tape, kR_tapeMany, kR_thrown]) (FR_le (ms := [kR_tape, kR_tapeMany, kR_thrown]) f2 (by decide)) f8 (by decide) (by decide)) f25 (by decide) (by decide))⟩
theorem s_R_fault {σ : SG} {what_0 : Int} (hσ : II σ) (qwhat_0 : (-2147483648) ≤ what_0 ∧ what_0 ≤ 2147483647) : wp_ (fR_fault σ what_0) (fun r => (0 ≤ r.1 ∧ r.1 ≤ 65536) ∧ II r.2 ∧ FR [kR_thrown] σ r.2) := by
  unfold fR_fault
  refine wp_wfI hσ b_kR_thrown (by (try dsimp only) <;> first | omega | ((try simp (disch := omega) only [w32_of, w64_of, w8_of]) <;> first | omega | (split <;> omega) | (refine And.intro ?_ ?_ <;> split <;> omega))) (fun σ_1 hσ_1 e1 => ?_)
  have f2 := FR_sg e1
  have c3 := w32_rng what_0
  refine wp_bd (s_R_fails (σ := σ_1) (is_0 := (decide (¬ ((fR_in (w32 what_0) 0 1) = true)))) (which_0 := 1) hσ_1 (by (try dsimp only) <;> first | omega | ((try simp (disch := omega) only [w32_of, w64_of, w8_of]) <;> first | omega | (split <;> omega) | (refine And.intro ?_ ?_ <;> split <;> omega)))) ?_
  rintro ⟨x_5, σ_4⟩ _ y6
  dsimp only at y6 ⊢
  obtain ⟨g4, hσ_4, f5⟩ := y6
  refine wp_if (fun h7 => ?_) (fun h7 => ?_)
  · try simp (disch := omega) only [w32_of, w64_of, w8_of, decide_eq_true_eq, decide_eq_false_iff_not] at h7
    exact wp_some ⟨(by (try dsimp only) <;> first | omega | ((try simp (disch := omega) only [w32_of, w64_of, w8_of]) <;> first | omega | (split <;> omega) | (refine And.intro ?_ ?_ <;> split <;> omega))), hσ_4, (FR_tr (ms := [kR_thrown]) (FR_le (ms := [kR_thrown]) f2 (by decide)) f5 (by decide) (by decide))⟩
  · have k8 := g4 (Bool.eq_false_iff.mpr h7)
    try simp (disch := omega) only [fR_isSlot, fR_in, decide_eq_false_iff_not, decide_eq_true_eq, Decidable.not_not, not_or, w32_of, w64_of] at k8
    try simp (disch := omega) only [w32_of, w64_of, w8_of, decide_eq_true_eq, decide_eq_false_iff_not] at h7
    have c9 := ii_kR_faultKind hσ_4 0
    have c10 := FR_at f5 (c := kR_faultKind) (by decide) 0
    have c11 := ii_kR_faultKind hσ_1 0
    have c12 := FR_at f2 (c := kR_faultKind) (by decide) 0
    have c13 := ii_kR_faultKind hσ 0
    have c14 := ii_kR_faultPlace hσ_4 0
    have c15 := FR_at f5 (c := kR_faultPlace) (by decide) 0
    have c16 := ii_kR_faultPlace hσ_1 0
    have c17 := FR_at f2 (c := kR_faultPlace) (by decide) 0
    have c18 := ii_kR_faultPlace hσ 0
    exact wp_some ⟨(by (try dsimp only) <;> first | omega | ((try simp (disch := omega) only [w32_of, w64_of, w8_of]) <;> first | omega | (split <;> omega) | (refine And.intro ?_ ?_ <;> split <;> omega))), hσ_4, (FR_tr (ms := [kR_thrown]) (FR_le (ms := [kR_thrown]) f2 (by decide)) f5 (by decide) (by decide))⟩
theorem s_R_byteAt {σ : SG} {i_0 : Int} (hσ : II σ) (qi_0 : (-2147483648) ≤ i_0 ∧ i_0 ≤ 2147483647) : wp_ (fR_byteAt σ i_0) (fun r => (0 ≤ r.1 ∧ r.1 ≤ 255) ∧ II r.2 ∧ FR [kR_thrown] σ r.2) := by
  unfold fR_byteAt
  refine wp_wfI hσ b_kR_thrown (by (try dsimp only) <;> first | omega | ((try simp (disch := omega) only [w32_of, w64_of, w8_of]) <;> first | omega | (split <;> omega) | (refine And.intro ?_ ?_ <;> split <;> omega))) (fun σ_1 hσ_1 e1 => ?_)
  have f2 := FR_sg e1
  have c3 := w32_rng i_0
  have c4 := ii_kR_resultMany hσ_1 0
  have c5 := FR_at f2 (c := kR_resultMany) (by decide) 0
  have c6 := ii_kR_resultMany hσ 0
  have c7 := w32_rng ((σ_1 kR_resultMany 0) - 1)
  refine wp_bd (s_R_fails (σ := σ_1) (is_0 := (decide (¬ ((fR_in (w32 i_0) 0 (w32 ((σ_1 kR_resultMany 0) - 1))) = true)))) (which_0 := 1) hσ_1 (by (try dsimp only) <;> first | omega | ((try simp (disch := omega) only [w32_of, w64_of, w8_of]) <;> first | omega | (split <;> omega) | (refine And.intro ?_ ?_ <;> split <;> omega)))) ?_
  rintro ⟨x_5, σ_4⟩ _ y10
  dsimp only at y10 ⊢
  obtain ⟨g8, hσ_4, f9⟩ := y10
  refine wp_if (fun h11 => ?_) (fun h11 => ?_)
  · try simp (disch := omega) only [w32_of, w64_of, w8_of, decide_eq_true_eq, decide_eq_false_iff_not] at h11
    exact wp_some ⟨(by (try dsimp only) <;> first | omega | ((try simp (disch := omega) only [w32_of, w64_of, w8_of]) <;> first | omega | (split <;> omega) | (refine And.intro ?_ ?_ <;> split <;> omega))), hσ_4, (FR_tr (ms := [kR_thrown]) (FR_le (ms := [kR_thrown]) f2 (by decide)) f9 (by decide) (by decide))⟩
  · have k12 := g8 (Bool.eq_false_iff.mpr h11)
    try simp (disch := omega) only [fR_isSlot, fR_in, decide_eq_false_iff_not, decide_eq_true_eq, Decidable.not_not, not_or, w32_of, w64_of] at k12
    try simp (disch := omega) only [w32_of, w64_of, w8_of, decide_eq_true_eq, decide_eq_false_iff_not] at h11
    refine wp_rdI (by (try dsimp only) <;> first | omega | ((try simp (disch := omega) only [w32_of, w64_of, w8_of]) <;> first | omega | (split <;> omega) | (refine And.intro ?_ ?_ <;> split <;> omega))) (by (try dsimp only) <;> first | omega | ((try simp (disch := omega) only [w32_of, w64_of, w8_of]) <;> first | omega | (split <;> omega) | (refine And.intro ?_ ?_ <;> split <;> omega))) (fun x_7 e13 => ?_)
    have b14 : (-128) ≤ x_7 ∧ x_7 ≤ 127 := by rw [e13]; exact ii_kR_result hσ_4 _
    have c15 := w8_rng x_7
    have c16 := q_ian_bd (w8 x_7) (m := 255) (by decide) (by decide)
    try simp (disch := omega) only [w32_of, w64_of, w8_of] at c16
    exact wp_some ⟨(by (try dsimp only) <;> first | omega | ((try simp (disch := omega) only [w32_of, w64_of, w8_of]) <;> first | omega | (split <;> omega) | (refine And.intro ?_ ?_ <;> split <;> omega))), hσ_4, (FR_tr (ms := [kR_thrown]) (FR_le (ms := [kR_thrown]) f2 (by decide)) f9 (by decide) (by decide))⟩
theorem s_R_wrong {σ : SG} {kind_0 : Int} {where_0 : Int} (hσ : II σ) (qkind_0 : 1 ≤ kind_0 ∧ kind_0 ≤ 9) (qwhere_0 : 0 ≤ where_0 ∧ where_0 ≤ 65536) : wp_ (fR_wrong σ kind_0 where_0) (fun r => True ∧ II r.2 ∧ FR [kR_faultKind, kR_faultPlace] σ r.2 ∧ (r.1 = false)) := by
  unfold fR_wrong
  refine wp_wfI hσ b_kR_faultKind (by (try dsimp only) <;> first | omega | ((try simp (disch := omega) only [w32_of, w64_of, w8_of]) <;> first | omega | (split <;> omega) | (refine And.intro ?_ ?_ <;> split <;> omega))) (fun σ_1 hσ_1 e1 => ?_)
  have f2 := FR_sg e1
  refine wp_wfI hσ_1 b_kR_faultPlace (by (try dsimp only) <;> first | omega | ((try simp (disch := omega) only [w32_of, w64_of, w8_of]) <;> first | omega | (split <;> omega) | (refine And.intro ?_ ?_ <;> split <;> omega))) (fun σ_2 hσ_2 e3 => ?_)
  have f4 := FR_sg e3
  exact wp_some ⟨True.intro, hσ_2, (FR_tr (ms := [kR_faultKind, kR_faultPlace]) (FR_le (ms := [kR_faultKind, kR_faultPlace]) f2 (by decide)) f4 (by decide) (by decide)), (by first | rfl | assumption)⟩
theorem s_R_here {σ : SG} (hσ : II σ) : wp_ (fR_here σ) (fun r => ((-1) ≤ r ∧ r ≤ 255) ∧ ((r = (-1)) ∨ (((σ kR_at 0) < (σ kR_size 0)) ∧ ((σ kR_size 0) ≤ 65536)))) := by
  unfold fR_here
  refine wp_bd (P := fun r => ((-1) ≤ r ∧ r ≤ 255) ∧ ((r = (-1)) ∨ (((σ kR_at 0) < (σ kR_size 0)) ∧ ((σ kR_size 0) ≤ 65536)))) ?_ ?_
  · have c2 := ii_kR_at hσ 0
    have c3 := w32_rng (σ kR_at 0)
    have c4 := ii_kR_size hσ 0
    have c5 := w32_rng (σ kR_size 0)
    refine wp_if (fun h1 => ?_) (fun h1 => ?_)
    · try simp (disch := omega) only [w32_of, w64_of, w8_of, decide_eq_true_eq, decide_eq_false_iff_not] at h1
      refine wp_rdI (by (try dsimp only) <;> first | omega | ((try simp (disch := omega) only [w32_of, w64_of, w8_of]) <;> first | omega | (split <;> omega) | (refine And.intro ?_ ?_ <;> split <;> omega))) (by (try dsimp only) <;> first | omega | ((try simp (disch := omega) only [w32_of, w64_of, w8_of]) <;> first | omega | (split <;> omega) | (refine And.intro ?_ ?_ <;> split <;> omega))) (fun x_4 e6 => ?_)
      have b7 : (-128) ≤ x_4 ∧ x_4 ≤ 127 := by rw [e6]; exact ii_kR_tape hσ _
      have c8 := w8_rng x_4
      have c9 := q_ian_bd (w8 x_4) (m := 255) (by decide) (by decide)
      try simp (disch := omega) only [w32_of, w64_of, w8_of] at c9
      exact wp_some ⟨(by (try dsimp only) <;> first | omega | ((try simp (disch := omega) only [w32_of, w64_of, w8_of]) <;> first | omega | (split <;> omega) | (refine And.intro ?_ ?_ <;> split <;> omega))), (by (try dsimp only) <;> first | omega | ((try simp (disch := omega) only [w32_of, w64_of, w8_of]) <;> first | omega | (split <;> omega) | (refine And.intro ?_ ?_ <;> split <;> omega)))⟩
    · try simp (disch := omega) only [w32_of, w64_of, w8_of, decide_eq_true_eq, decide_eq_false_iff_not] at h1
      exact wp_some ⟨(by (try dsimp only) <;> first | omega | ((try simp (disch := omega) only [w32_of, w64_of, w8_of]) <;> first | omega | (split <;> omega) | (refine And.intro ?_ ?_ <;> split <;> omega))), (by (try dsimp only) <;> first | omega | ((try simp (disch := omega) only [w32_of, w64_of, w8_of]) <;> first | omega | (split <;> omega) | (refine And.intro ?_ ?_ <;> split <;> omega)))⟩
  rintro x_8 _ ⟨g11, x10⟩
  have c12 := ii_kR_at hσ 0
  have c13 := ii_kR_size hσ 0
  exact wp_some ⟨(by (try dsimp only) <;> first | omega | ((try simp (disch := omega) only [w32_of, w64_of, w8_of]) <;> first | omega | (split <;> omega) | (refine And.intro ?_ ?_ <;> split <;> omega))), (by (try dsimp only) <;> first | omega | ((try simp (disch := omega) only [w32_of, w64_of, w8_of]) <;> first | omega | (split <;> omega) | (refine And.intro ?_ ?_ <;> split <;> omega)))⟩
theorem s_R_skip {σ : SG} (hσ : II σ) : wp_ (fR_skip σ) (fun r => II r ∧ FR [kR_at] σ r) := by
  unfold fR_skip
  refine wp_bd (P := fun r => II r ∧ FR [kR_at] σ r) ?_ ?_
  · refine wp_whl (fun s => II s ∧ FR [kR_at] σ s) (fun s => ((65536 - (s kR_at 0))).toNat) ⟨hσ, (FR_refl _ _)⟩ ?_
    rintro σ_1 ⟨hσ_1, f1⟩
    refine wp_bd (s_R_here (σ := σ_1) hσ_1) ?_
    rintro x_10 _ ⟨g3, x2⟩
    have c4 := ii_kR_at hσ_1 0
    have c5 := ii_kR_size hσ_1 0
    have c6 := FR_at f1 (c := kR_size) (by decide) 0
    have c7 := ii_kR_size hσ 0
    refine wp_if (fun h8 => ?_) (fun h8 => ?_)
    · try simp (disch := omega) only [w32_of, w64_of, w8_of, decide_eq_true_eq, decide_eq_false_iff_not, fR_isBlank] at h8
      refine wp_wfI hσ_1 b_kR_at (by (try dsimp only) <;> first | omega | ((try simp (disch := omega) only [w32_of, w64_of, w8_of]) <;> first | omega | (split <;> omega) | (refine And.intro ?_ ?_ <;> split <;> omega))) (fun σ_12 hσ_12 e9 => ?_)
      have f10 := FR_sg e9
      have c11 := ii_kR_at hσ_12 0
      have c12 := sg_val e9
      exact wp_some ⟨fun _ e => by cases e; exact ⟨⟨hσ_12, (FR_tr (ms := [kR_at]) (FR_le (ms := [kR_at]) f1 (by decide)) f10 (by decide) (by decide))⟩, by (try dsimp only) <;> first | omega | ((try simp (disch := omega) only [w32_of, w64_of, w8_of]) <;> first | omega | (split <;> omega) | (refine And.intro ?_ ?_ <;> split <;> omega))⟩, fun _ e => (by cases e)⟩
    · try simp (disch := omega) only [w32_of, w64_of, w8_of, decide_eq_true_eq, decide_eq_false_iff_not, fR_isBlank] at h8
      exact wp_some ⟨fun _ e => (by cases e), fun _ e => by cases e; exact ⟨hσ_1, (FR_le (ms := [kR_at]) f1 (by decide))⟩⟩
  rintro σ_15 _ ⟨hσ_15, f13⟩
  exact wp_some ⟨hσ_15, (FR_le (ms := [kR_at]) f13 (by decide))⟩
theorem s_R_strange {σ : SG} {word_0 : Bool} (hσ : II σ) : wp_ (fR_strange σ word_0) (fun r => True ∧ II r.2 ∧ FR [kR_faultKind, kR_faultPlace] σ r.2) := by
  unfold fR_strange
  refine wp_bd (s_R_here (σ := σ) hσ) ?_
  rintro x_2 _ ⟨g2, x1⟩
  have c3 := ii_kR_at hσ 0
  have c4 := ii_kR_size hσ 0
  have c6 := w32_rng x_2
  refine wp_if (fun h5 => ?_) (fun h5 => ?_)
  · try simp (disch := omega) only [w32_of, w64_of, w8_of, decide_eq_true_eq, decide_eq_false_iff_not, fR_isLetter] at h5
    refine wp_bd (s_R_wrong (σ := σ) (kind_0 := (if (word_0 = true) then 2 else 3)) (where_0 := (σ kR_at 0)) hσ (by (try dsimp only) <;> first | omega | ((try simp (disch := omega) only [w32_of, w64_of, w8_of]) <;> first | omega | (split <;> omega) | (refine And.intro ?_ ?_ <;> split <;> omega))) (by (try dsimp only) <;> first | omega | ((try simp (disch := omega) only [w32_of, w64_of, w8_of]) <;> first | omega | (split <;> omega) | (refine And.intro ?_ ?_ <;> split <;> omega)))) ?_
    rintro ⟨x_6, σ_5⟩ _ y10
    dsimp only at y10 ⊢
    obtain ⟨g8, hσ_5, f9, x7⟩ := y10
    exact wp_some ⟨True.intro, hσ_5, (FR_le (ms := [kR_faultKind, kR_faultPlace]) f9 (by decide))⟩
  · try simp (disch := omega) only [w32_of, w64_of, w8_of, decide_eq_true_eq, decide_eq_false_iff_not, fR_isLetter] at h5
    refine wp_lt (fun x_9 e11 => ?_)
    refine wp_bd (s_R_wrong (σ := σ) (kind_0 := (if (x_9 = true) then 3 else 1)) (where_0 := (σ kR_at 0)) hσ (by (try dsimp only) <;> first | omega | ((try simp (disch := omega) only [w32_of, w64_of, w8_of]) <;> first | omega | (split <;> omega) | (refine And.intro ?_ ?_ <;> split <;> omega))) (by (try dsimp only) <;> first | omega | ((try simp (disch := omega) only [w32_of, w64_of, w8_of]) <;> first | omega | (split <;> omega) | (refine And.intro ?_ ?_ <;> split <;> omega)))) ?_
    rintro ⟨x_13, σ_12⟩ _ y15
    dsimp only at y15 ⊢
    obtain ⟨g13, hσ_12, f14, x12⟩ := y15
    exact wp_some ⟨True.intro, hσ_12, (FR_le (ms := [kR_faultKind, kR_faultPlace]) f14 (by decide))⟩
theorem s_R_pair {σ : SG} {kind_0 : Int} (hσ : II σ) (w0 : ((0 ≤ kind_0) ∧ (kind_0 ≤ 7))) : wp_ (fR_pair σ kind_0) (fun r => True ∧ II r.2 ∧ FR [kR_at, kR_faultKind, kR_faultPlace, kR_plan, kR_planMany] σ r.2 ∧ ((r.1 = true) → ((r.2 kR_planMany 32) = ((σ kR_planMany 32) + 2)))) := by
  unfold fR_pair
  refine wp_bd (s_R_skip (σ := σ) hσ) ?_
  rintro σ_2 _ ⟨hσ_2, f1⟩
  refine wp_rdI (by (try dsimp only) <;> first | omega | ((try simp (disch := omega) only [w32_of, w64_of, w8_of]) <;> first | omega | (split <;> omega) | (refine And.intro ?_ ?_ <;> split <;> omega))) (by (try dsimp only) <;> first | omega | ((try simp (disch := omega) only [w32_of, w64_of, w8_of]) <;> first | omega | (split <;> omega) | (refine And.intro ?_ ?_ <;> split <;> omega))) (fun x_3 e2 => ?_)
  have c4 := ii_kR_planMany hσ_2 32
  have c5 := FR_at f1 (c := kR_planMany) (by decide) 32
  have c6 := ii_kR_planMany hσ 32
  have b3 : 0 ≤ x_3 ∧ x_3 ≤ 2048 := by rw [e2]; exact ii_kR_planMany hσ_2 _
  have c8 := w32_rng (x_3 + 2)
  refine wp_if (fun h7 => ?_) (fun h7 => ?_)
  · try simp (disch := omega) only [w32_of, w64_of, w8_of, decide_eq_true_eq, decide_eq_false_iff_not] at h7
    have c9 := ii_kR_at hσ_2 0
    refine wp_bd (s_R_wrong (σ := σ_2) (kind_0 := 7) (where_0 := (σ_2 kR_at 0)) hσ_2 (by (try dsimp only) <;> first | omega | ((try simp (disch := omega) only [w32_of, w64_of, w8_of]) <;> first | omega | (split <;> omega) | (refine And.intro ?_ ?_ <;> split <;> omega))) (by (try dsimp only) <;> first | omega | ((try simp (disch := omega) only [w32_of, w64_of, w8_of]) <;> first | omega | (split <;> omega) | (refine And.intro ?_ ?_ <;> split <;> omega)))) ?_
    rintro ⟨x_8, σ_7⟩ _ y13
    dsimp only at y13 ⊢
    obtain ⟨g11, hσ_7, f12, x10⟩ := y13
    have c14 := ii_kR_planMany hσ_7 32
    have c15 := FR_at f12 (c := kR_planMany) (by decide) 32
    exact wp_some ⟨True.intro, hσ_7, (FR_tr (ms := [kR_at, kR_faultKind, kR_faultPlace, kR_plan, kR_planMany]) (FR_le (ms := [kR_at, kR_faultKind, kR_faultPlace, kR_plan, kR_planMany]) f1 (by decide)) f12 (by decide) (by decide)), (fun hb => by first | (cases hb; done) | ((try dsimp only) <;> first | omega | ((try simp (disch := omega) only [w32_of, w64_of, w8_of]) <;> first | omega | (split <;> omega) | (refine And.intro ?_ ?_ <;> split <;> omega))) | (exfalso; simp_all; done))⟩
  · try simp (disch := omega) only [w32_of, w64_of, w8_of, decide_eq_true_eq, decide_eq_false_iff_not] at h7
    refine wp_bd (s_R_tell (σ := σ_2) (v_0 := kind_0) hσ_2 (by (try dsimp only) <;> first | omega | ((try simp (disch := omega) only [w32_of, w64_of, w8_of]) <;> first | omega | (split <;> omega) | (refine And.intro ?_ ?_ <;> split <;> omega))) (by (try dsimp only) <;> first | omega | ((try simp (disch := omega) only [w32_of, w64_of, w8_of]) <;> first | omega | (split <;> omega) | (refine And.intro ?_ ?_ <;> split <;> omega)))) ?_
    rintro σ_10 _ ⟨hσ_10, f17, x16⟩
    have c18 := ii_kR_planMany hσ_10 32
    refine wp_bd (s_R_tell (σ := σ_10) (v_0 := 0) hσ_10 (by (try dsimp only) <;> first | omega | ((try simp (disch := omega) only [w32_of, w64_of, w8_of]) <;> first | omega | (split <;> omega) | (refine And.intro ?_ ?_ <;> split <;> omega))) (by (try dsimp only) <;> first | omega | ((try simp (disch := omega) only [w32_of, w64_of, w8_of]) <;> first | omega | (split <;> omega) | (refine And.intro ?_ ?_ <;> split <;> omega)))) ?_
    rintro σ_12 _ ⟨hσ_12, f20, x19⟩
    have c21 := ii_kR_planMany hσ_12 32
    exact wp_some ⟨True.intro, hσ_12, (FR_tr (ms := [kR_at, kR_faultKind, kR_faultPlace, kR_plan, kR_planMany]) (FR_tr (ms := [kR_at, kR_faultKind, kR_faultPlace, kR_plan, kR_planMany]) (FR_le (ms := [kR_at, kR_faultKind, kR_faultPlace, kR_plan, kR_planMany]) f1 (by decide)) f17 (by decide) (by decide)) f20 (by decide) (by decide)), (fun hb => by first | (cases hb; done) | ((try dsimp only) <;> first | omega | ((try simp (disch := omega) only [w32_of, w64_of, w8_of]) <;> first | omega | (split <;> omega) | (refine And.intro ?_ ?_ <;> split <;> omega))) | (exfalso; simp_all; done))⟩
theorem s_R_closes {σ : SG} (hσ : II σ) : wp_ (fR_closes σ) (fun r => True ∧ II r.2 ∧ FR [kR_at, kR_faultKind, kR_faultPlace] σ r.2) := by
  unfold fR_closes
  refine wp_bd (s_R_skip (σ := σ) hσ) ?_
  rintro σ_2 _ ⟨hσ_2, f1⟩
  refine wp_bd (s_R_here (σ := σ_2) hσ_2) ?_
  rintro x_4 _ ⟨g3, x2⟩
  have c4 := ii_kR_at hσ_2 0
  have c5 := ii_kR_size hσ_2 0
  have c6 := FR_at f1 (c := kR_size) (by decide) 0
  have c7 := ii_kR_size hσ 0
  have c9 := w32_rng x_4
  refine wp_if (fun h8 => ?_) (fun h8 => ?_)
  · try simp (disch := omega) only [w32_of, w64_of, w8_of, decide_eq_true_eq, decide_eq_false_iff_not] at h8
    refine wp_bd (s_R_strange (σ := σ_2) (word_0 := false) hσ_2) ?_
    rintro ⟨x_8, σ_7⟩ _ y12
    dsimp only at y12 ⊢
    obtain ⟨g10, hσ_7, f11⟩ := y12
    exact wp_some ⟨True.intro, hσ_7, (FR_tr (ms := [kR_at, kR_faultKind, kR_faultPlace]) (FR_le (ms := [kR_at, kR_faultKind, kR_faultPlace]) f1 (by decide)) f11 (by decide) (by decide))⟩
  · try simp (disch := omega) only [w32_of, w64_of, w8_of, decide_eq_true_eq, decide_eq_false_iff_not] at h8
    refine wp_wfI hσ_2 b_kR_at (by (try dsimp only) <;> first | omega | ((try simp (disch := omega) only [w32_of, w64_of, w8_of]) <;> first | omega | (split <;> omega) | (refine And.intro ?_ ?_ <;> split <;> omega))) (fun σ_9 hσ_9 e13 => ?_)
    have f14 := FR_sg e13
    exact wp_some ⟨True.intro, hσ_9, (FR_tr (ms := [kR_at, kR_faultKind, kR_faultPlace]) (FR_le (ms := [kR_at, kR_faultKind, kR_faultPlace]) f1 (by decide)) f14 (by decide) (by decide))⟩
theorem s_R_digitsOn {σ : SG} (hσ : II σ) : wp_ (fR_digitsOn σ) (fun r => II r ∧ FR [kR_at] σ r) := by
  unfold fR_digitsOn
  refine wp_bd (P := fun r => II r ∧ FR [kR_at] σ r) ?_ ?_
  · refine wp_whl (fun s => II s ∧ FR [kR_at] σ s) (fun s => ((65536 - (s kR_at 0))).toNat) ⟨hσ, (FR_refl _ _)⟩ ?_
    rintro σ_1 ⟨hσ_1, f1⟩
    refine wp_bd (s_R_here (σ := σ_1) hσ_1) ?_
    rintro x_10 _ ⟨g3, x2⟩
    have c4 := ii_kR_at hσ_1 0
    have c5 := ii_kR_size hσ_1 0
    have c6 := FR_at f1 (c := kR_size) (by decide) 0
    have c7 := ii_kR_size hσ 0
    refine wp_if (fun h8 => ?_) (fun h8 => ?_)
    · try simp (disch := omega) only [w32_of, w64_of, w8_of, decide_eq_true_eq, decide_eq_false_iff_not, fR_isDigit] at h8
      refine wp_wfI hσ_1 b_kR_at (by (try dsimp only) <;> first | omega | ((try simp (disch := omega) only [w32_of, w64_of, w8_of]) <;> first | omega | (split <;> omega) | (refine And.intro ?_ ?_ <;> split <;> omega))) (fun σ_12 hσ_12 e9 => ?_)
      have f10 := FR_sg e9
      have c11 := ii_kR_at hσ_12 0
      have c12 := sg_val e9
      exact wp_some ⟨fun _ e => by cases e; exact ⟨⟨hσ_12, (FR_tr (ms := [kR_at]) (FR_le (ms := [kR_at]) f1 (by decide)) f10 (by decide) (by decide))⟩, by (try dsimp only) <;> first | omega | ((try simp (disch := omega) only [w32_of, w64_of, w8_of]) <;> first | omega | (split <;> omega) | (refine And.intro ?_ ?_ <;> split <;> omega))⟩, fun _ e => (by cases e)⟩
    · try simp (disch := omega) only [w32_of, w64_of, w8_of, decide_eq_true_eq, decide_eq_false_iff_not, fR_isDigit] at h8
      exact wp_some ⟨fun _ e => (by cases e), fun _ e => by cases e; exact ⟨hσ_1, (FR_le (ms := [kR_at]) f1 (by decide))⟩⟩
  rintro σ_15 _ ⟨hσ_15, f13⟩
  exact wp_some ⟨hσ_15, (FR_le (ms := [kR_at]) f13 (by decide))⟩
theorem s_R_goesOn {σ : SG} (hσ : II σ) : wp_ (fR_goesOn σ) (fun r => ((-1) ≤ r.1 ∧ r.1 ≤ 1) ∧ II r.2 ∧ FR [kR_at, kR_faultKind, kR_faultPlace] σ r.2) := by
  unfold fR_goesOn
  refine wp_bd (s_R_skip (σ := σ) hσ) ?_
  rintro σ_2 _ ⟨hσ_2, f1⟩
  refine wp_bd (s_R_here (σ := σ_2) hσ_2) ?_
  rintro x_4 _ ⟨g3, x2⟩
  have c4 := ii_kR_at hσ_2 0
  have c5 := ii_kR_size hσ_2 0
  have c6 := FR_at f1 (c := kR_size) (by decide) 0
  have c7 := ii_kR_size hσ 0
  have c9 := w32_rng x_4
  refine wp_if (fun h8 => ?_) (fun h8 => ?_)
  · try simp (disch := omega) only [w32_of, w64_of, w8_of, decide_eq_true_eq, decide_eq_false_iff_not] at h8
    refine wp_bd (s_R_strange (σ := σ_2) (word_0 := false) hσ_2) ?_
    rintro ⟨x_7, σ_6⟩ _ y12
    dsimp only at y12 ⊢
    obtain ⟨g10, hσ_6, f11⟩ := y12
    exact wp_some ⟨(by (try dsimp only) <;> first | omega | ((try simp (disch := omega) only [w32_of, w64_of, w8_of]) <;> first | omega | (split <;> omega) | (refine And.intro ?_ ?_ <;> split <;> omega))), hσ_6, (FR_tr (ms := [kR_at, kR_faultKind, kR_faultPlace]) (FR_le (ms := [kR_at, kR_faultKind, kR_faultPlace]) f1 (by decide)) f11 (by decide) (by decide))⟩
  · try simp (disch := omega) only [w32_of, w64_of, w8_of, decide_eq_true_eq, decide_eq_false_iff_not] at h8
    refine wp_wfI hσ_2 b_kR_at (by (try dsimp only) <;> first | omega | ((try simp (disch := omega) only [w32_of, w64_of, w8_of]) <;> first | omega | (split <;> omega) | (refine And.intro ?_ ?_ <;> split <;> omega))) (fun σ_8 hσ_8 e13 => ?_)
    have f14 := FR_sg e13
    exact wp_some ⟨(by (try dsimp only) <;> first | omega | ((try simp (disch := omega) only [w32_of, w64_of, w8_of]) <;> first | omega | (split <;> omega) | (refine And.intro ?_ ?_ <;> split <;> omega))), hσ_8, (FR_tr (ms := [kR_at, kR_faultKind, kR_faultPlace]) (FR_le (ms := [kR_at, kR_faultKind, kR_faultPlace]) f1 (by decide)) f14 (by decide) (by decide))⟩
theorem s_R_put {σ : SG} {c_0 : Int} (hσ : II σ) (qc_0 : (-9223372036854775808) ≤ c_0 ∧ c_0 ≤ 9223372036854775807) (w0 : ((σ kR_resultMany 0) ≤ 131071)) : wp_ (fR_put σ c_0) (fun r => II r ∧ FR [kR_result, kR_resultMany] σ r ∧ ((r kR_resultMany 0) = ((σ kR_resultMany 0) + 1))) := by
  unfold fR_put
  have c1 := ii_kR_resultMany hσ 0
  have c2 := w8_rng c_0
  have c3 := w32_rng (σ kR_resultMany 0)
  refine wp_waI hσ b_kR_result (by (try dsimp only) <;> first | omega | ((try simp (disch := omega) only [w32_of, w64_of, w8_of]) <;> first | omega | (split <;> omega) | (refine And.intro ?_ ?_ <;> split <;> omega))) (by (try dsimp only) <;> first | omega | ((try simp (disch := omega) only [w32_of, w64_of, w8_of]) <;> first | omega | (split <;> omega) | (refine And.intro ?_ ?_ <;> split <;> omega))) (by (try dsimp only) <;> first | omega | ((try simp (disch := omega) only [w32_of, w64_of, w8_of]) <;> first | omega | (split <;> omega) | (refine And.intro ?_ ?_ <;> split <;> omega))) (fun σ_1 hσ_1 e4 => ?_)
  have f5 := FR_sg e4
  have c6 := ii_kR_resultMany hσ_1 0
  have c7 := FR_at f5 (c := kR_resultMany) (by decide) 0
  refine wp_wfI hσ_1 b_kR_resultMany (by (try dsimp only) <;> first | omega | ((try simp (disch := omega) only [w32_of, w64_of, w8_of]) <;> first | omega | (split <;> omega) | (refine And.intro ?_ ?_ <;> split <;> omega))) (fun σ_3 hσ_3 e8 => ?_)
  have f9 := FR_sg e8
  have c10 := ii_kR_resultMany hσ_3 0
  have c11 := sg_val e8
  exact wp_some ⟨hσ_3, (FR_tr (ms := [kR_result, kR_resultMany]) (FR_le (ms := [kR_result, kR_resultMany]) f5 (by decide)) f9 (by decide) (by decide)), (by (try dsimp only) <;> first | omega | ((try simp (disch := omega) only [w32_of, w64_of, w8_of]) <;> first | omega | (split <;> omega) | (refine And.intro ?_ ?_ <;> split <;> omega)))⟩
theorem s_R_copy {σ : SG} {from_0 : Int} {to_0 : Int} (hσ : II σ) (qfrom_0 : (-2147483648) ≤ from_0 ∧ from_0 ≤ 2147483647) (qto_0 : (-2147483648) ≤ to_0 ∧ to_0 ≤ 2147483647) : wp_ (fR_copy σ from_0 to_0) (fun r => True ∧ II r.2 ∧ FR [kR_plan, kR_planMany, kR_pointMany, kR_thrown, kR_xs, kR_ys] σ r.2) := by
  unfold fR_copy
  refine wp_wfI hσ b_kR_thrown (by (try dsimp only) <;> first | omega | ((try simp (disch := omega) only [w32_of, w64_of, w8_of]) <;> first | omega | (split <;> omega) | (refine And.intro ?_ ?_ <;> split <;> omega))) (fun σ_1 hσ_1 e1 => ?_)
  have f2 := FR_sg e1
  refine wp_bd (s_R_fails (σ := σ_1) (is_0 := (decide ((¬ ((fR_isSlot from_0) = true)) ∨ (¬ ((fR_isSlot to_0) = true))))) (which_0 := 1) hσ_1 (by (try dsimp only) <;> first | omega | ((try simp (disch := omega) only [w32_of, w64_of, w8_of]) <;> first | omega | (split <;> omega) | (refine And.intro ?_ ?_ <;> split <;> omega)))) ?_
  rintro ⟨x_29, σ_28⟩ _ y5
  dsimp only at y5 ⊢
  obtain ⟨g3, hσ_28, f4⟩ := y5
  refine wp_if (fun h6 => ?_) (fun h6 => ?_)
  · try simp (disch := omega) only [w32_of, w64_of, w8_of, decide_eq_true_eq, decide_eq_false_iff_not] at h6
    exact wp_some ⟨True.intro, hσ_28, (FR_tr (ms := [kR_plan, kR_planMany, kR_pointMany, kR_thrown, kR_xs, kR_ys]) (FR_le (ms := [kR_plan, kR_planMany, kR_pointMany, kR_thrown, kR_xs, kR_ys]) f2 (by decide)) f4 (by decide) (by decide))⟩
  · have k7 := g3 (Bool.eq_false_iff.mpr h6)
    try simp (disch := omega) only [fR_isSlot, fR_in, decide_eq_false_iff_not, decide_eq_true_eq, Decidable.not_not, not_or, w32_of, w64_of] at k7
    try simp (disch := omega) only [w32_of, w64_of, w8_of, decide_eq_true_eq, decide_eq_false_iff_not] at h6
    refine wp_bd (P := fun r => True) ?_ ?_
    · refine wp_bd (s_R_has (σ := σ_28) (slot_0 := from_0) hσ_28 (by (try dsimp only) <;> first | omega | ((try simp (disch := omega) only [w32_of, w64_of, w8_of]) <;> first | omega | (split <;> omega) | (refine And.intro ?_ ?_ <;> split <;> omega)))) ?_
      rintro x_32 _ g8
      refine wp_if (fun h9 => ?_) (fun h9 => ?_)
      · try simp (disch := omega) only [w32_of, w64_of, w8_of, decide_eq_true_eq, decide_eq_false_iff_not] at h9
        exact wp_some True.intro
      · try simp (disch := omega) only [w32_of, w64_of, w8_of, decide_eq_true_eq, decide_eq_false_iff_not] at h9
        exact wp_some True.intro
    rintro x_36 _ g10
    refine wp_bd (s_R_fails (σ := σ_28) (is_0 := x_36) (which_0 := 2) hσ_28 (by (try dsimp only) <;> first | omega | ((try simp (disch := omega) only [w32_of, w64_of, w8_of]) <;> first | omega | (split <;> omega) | (refine And.intro ?_ ?_ <;> split <;> omega)))) ?_
    rintro ⟨x_39, σ_38⟩ _ y13
    dsimp only at y13 ⊢
    obtain ⟨g11, hσ_38, f12⟩ := y13
    refine wp_if (fun h14 => ?_) (fun h14 => ?_)
    · try simp (disch := omega) only [w32_of, w64_of, w8_of, decide_eq_true_eq, decide_eq_false_iff_not] at h14
      exact wp_some ⟨True.intro, hσ_38, (FR_tr (ms := [kR_plan, kR_planMany, kR_pointMany, kR_thrown, kR_xs, kR_ys]) (FR_tr (ms := [kR_plan, kR_planMany, kR_pointMany, kR_thrown, kR_xs, kR_ys]) (FR_le (ms := [kR_plan, kR_planMany, kR_pointMany, kR_thrown, kR_xs, kR_ys]) f2 (by decide)) f4 (by decide) (by decide)) f12 (by decide) (by decide))⟩
    · have k15 := g11 (Bool.eq_false_iff.mpr h14)
      try simp (disch := omega) only [fR_isSlot, fR_in, decide_eq_false_iff_not, decide_eq_true_eq, Decidable.not_not, not_or, w32_of, w64_of] at k15
      try simp (disch := omega) only [w32_of, w64_of, w8_of, decide_eq_true_eq, decide_eq_false_iff_not] at h14
      refine wp_bd (P := fun r => II r ∧ FR [kR_plan, kR_planMany, kR_pointMany, kR_xs, kR_ys] σ_38 r) ?_ ?_
      · have c17 := w32_rng from_0
        have c18 := w32_rng to_0
        refine wp_if (fun h16 => ?_) (fun h16 => ?_)
        · try simp (disch := omega) only [w32_of, w64_of, w8_of, decide_eq_true_eq, decide_eq_false_iff_not] at h16
          refine wp_bd (s_R_move (σ := σ_38) (from_0 := from_0) (to_0 := to_0) hσ_38 (by (try dsimp only) <;> first | omega | ((try simp (disch := omega) only [w32_of, w64_of, w8_of]) <;> first | omega | (split <;> omega) | (refine And.intro ?_ ?_ <;> split <;> omega))) (by (try dsimp only) <;> first | omega | ((try simp (disch := omega) only [w32_of, w64_of, w8_of]) <;> first | omega | (split <;> omega) | (refine And.intro ?_ ?_ <;> split <;> omega)))) ?_
          rintro σ_47 _ ⟨hσ_47, f19⟩
          exact wp_some ⟨hσ_47, (FR_le (ms := [kR_plan, kR_planMany, kR_pointMany, kR_xs, kR_ys]) f19 (by decide))⟩
        · try simp (disch := omega) only [w32_of, w64_of, w8_of, decide_eq_true_eq, decide_eq_false_iff_not] at h16
          exact wp_some ⟨hσ_38, (FR_refl _ _)⟩
      rintro σ_50 _ ⟨hσ_50, f20⟩
      have c21 := w32_rng (2048 * to_0)
      refine wp_rdI (by (try dsimp only) <;> first | omega | ((try simp (disch := omega) only [w32_of, w64_of, w8_of]) <;> first | omega | (split <;> omega) | (refine And.intro ?_ ?_ <;> split <;> omega))) (by (try dsimp only) <;> first | omega | ((try simp (disch := omega) only [w32_of, w64_of, w8_of]) <;> first | omega | (split <;> omega) | (refine And.intro ?_ ?_ <;> split <;> omega))) (fun x_51 e22 => ?_)
      exact wp_some ⟨True.intro, hσ_50, (FR_tr (ms := [kR_plan, kR_planMany, kR_pointMany, kR_thrown, kR_xs, kR_ys]) (FR_tr (ms := [kR_plan, kR_planMany, kR_pointMany, kR_thrown, kR_xs, kR_ys]) (FR_tr (ms := [kR_plan, kR_planMany, kR_pointMany, kR_thrown, kR_xs, kR_ys]) (FR_le (ms := [kR_plan, kR_planMany, kR_pointMany, kR_thrown, kR_xs, kR_ys]) f2 (by decide)) f4 (by decide) (by decide)) f12 (by decide) (by decide)) f20 (by decide) (by decide))⟩
theorem s_R_drop {σ : SG} {slot_0 : Int} (hσ : II σ) (qslot_0 : (-2147483648) ≤ slot_0 ∧ slot_0 ≤ 2147483647) : wp_ (fR_drop σ slot_0) (fun r => True ∧ II r.2 ∧ FR [kR_planMany, kR_pointMany, kR_thrown] σ r.2) := by
  unfold fR_drop
  refine wp_wfI hσ b_kR_thrown (by (try dsimp only) <;> first | omega | ((try simp (disch := omega) only [w32_of, w64_of, w8_of]) <;> first | omega | (split <;> omega) | (refine And.intro ?_ ?_ <;> split <;> omega))) (fun σ_1 hσ_1 e1 => ?_)
  have f2 := FR_sg e1
  refine wp_bd (s_R_fails (σ := σ_1) (is_0 := (decide (¬ ((fR_isSlot slot_0) = true)))) (which_0 := 1) hσ_1 (by (try dsimp only) <;> first | omega | ((try simp (disch := omega) only [w32_of, w64_of, w8_of]) <;> first | omega | (split <;> omega) | (refine And.intro ?_ ?_ <;> split <;> omega)))) ?_
  rintro ⟨x_5, σ_4⟩ _ y5
  dsimp only at y5 ⊢
  obtain ⟨g3, hσ_4, f4⟩ := y5
  refine wp_if (fun h6 => ?_) (fun h6 => ?_)
  · try simp (disch := omega) only [w32_of, w64_of, w8_of, decide_eq_true_eq, decide_eq_false_iff_not] at h6
    exact wp_some ⟨True.intro, hσ_4, (FR_tr (ms := [kR_planMany, kR_pointMany, kR_thrown]) (FR_le (ms := [kR_planMany, kR_pointMany, kR_thrown]) f2 (by decide)) f4 (by decide) (by decide))⟩
  · have k7 := g3 (Bool.eq_false_iff.mpr h6)
    try simp (disch := omega) only [fR_isSlot, fR_in, decide_eq_false_iff_not, decide_eq_true_eq, Decidable.not_not, not_or, w32_of, w64_of] at k7
    try simp (disch := omega) only [w32_of, w64_of, w8_of, decide_eq_true_eq, decide_eq_false_iff_not] at h6
    refine wp_bd (s_R_has (σ := σ_4) (slot_0 := slot_0) hσ_4 (by (try dsimp only) <;> first | omega | ((try simp (disch := omega) only [w32_of, w64_of, w8_of]) <;> first | omega | (split <;> omega) | (refine And.intro ?_ ?_ <;> split <;> omega)))) ?_
    rintro x_8 _ g8
    refine wp_bd (s_R_clear (σ := σ_4) (slot_0 := slot_0) hσ_4 (by (try dsimp only) <;> first | omega | ((try simp (disch := omega) only [w32_of, w64_of, w8_of]) <;> first | omega | (split <;> omega) | (refine And.intro ?_ ?_ <;> split <;> omega)))) ?_
    rintro σ_10 _ ⟨hσ_10, f9⟩
    exact wp_some ⟨True.intro, hσ_10, (FR_tr (ms := [kR_planMany, kR_pointMany, kR_thrown]) (FR_tr (ms := [kR_planMany, kR_pointMany, kR_thrown]) (FR_le (ms := [kR_planMany, kR_pointMany, kR_thrown]) f2 (by decide)) f4 (by decide) (by decide)) f9 (by decide) (by decide))⟩
theorem s_R_same {σ : SG} {slot_0 : Int} {other_0 : Int} (hσ : II σ) (qslot_0 : (-2147483648) ≤ slot_0 ∧ slot_0 ≤ 2147483647) (qother_0 : (-2147483648) ≤ other_0 ∧ other_0 ≤ 2147483647) : wp_ (fR_same σ slot_0 other_0) (fun r => True ∧ II r.2 ∧ FR [kR_thrown] σ r.2) := by
  unfold fR_same
  refine wp_wfI hσ b_kR_thrown (by (try dsimp only) <;> first | omega | ((try simp (disch := omega) only [w32_of, w64_of, w8_of]) <;> first | omega | (split <;> omega) | (refine And.intro ?_ ?_ <;> split <;> omega))) (fun σ_1 hσ_1 e1 => ?_)
  have f2 := FR_sg e1
  refine wp_bd (s_R_fails (σ := σ_1) (is_0 := (decide ((¬ ((fR_isSlot slot_0) = true)) ∨ (¬ ((fR_isSlot other_0) = true))))) (which_0 := 1) hσ_1 (by (try dsimp only) <;> first | omega | ((try simp (disch := omega) only [w32_of, w64_of, w8_of]) <;> first | omega | (split <;> omega) | (refine And.intro ?_ ?_ <;> split <;> omega)))) ?_
  rintro ⟨x_5, σ_4⟩ _ y5
  dsimp only at y5 ⊢
  obtain ⟨g3, hσ_4, f4⟩ := y5
  refine wp_if (fun h6 => ?_) (fun h6 => ?_)
  · try simp (disch := omega) only [w32_of, w64_of, w8_of, decide_eq_true_eq, decide_eq_false_iff_not] at h6
    exact wp_some ⟨True.intro, hσ_4, (FR_tr (ms := [kR_thrown]) (FR_le (ms := [kR_thrown]) f2 (by decide)) f4 (by decide) (by decide))⟩
  · have k7 := g3 (Bool.eq_false_iff.mpr h6)
    try simp (disch := omega) only [fR_isSlot, fR_in, decide_eq_false_iff_not, decide_eq_true_eq, Decidable.not_not, not_or, w32_of, w64_of] at k7
    try simp (disch := omega) only [w32_of, w64_of, w8_of, decide_eq_true_eq, decide_eq_false_iff_not] at h6
    refine wp_bd (P := fun r => True) ?_ ?_
    · have c8 := w32_rng slot_0
      refine wp_rdI (by (try dsimp only) <;> first | omega | ((try simp (disch := omega) only [w32_of, w64_of, w8_of]) <;> first | omega | (split <;> omega) | (refine And.intro ?_ ?_ <;> split <;> omega))) (by (try dsimp only) <;> first | omega | ((try simp (disch := omega) only [w32_of, w64_of, w8_of]) <;> first | omega | (split <;> omega) | (refine And.intro ?_ ?_ <;> split <;> omega))) (fun x_7 e9 => ?_)
      have b10 : 0 ≤ x_7 ∧ x_7 ≤ 2048 := by rw [e9]; exact ii_kR_planMany hσ_4 _
      have c11 := w32_rng other_0
      refine wp_rdI (by (try dsimp only) <;> first | omega | ((try simp (disch := omega) only [w32_of, w64_of, w8_of]) <;> first | omega | (split <;> omega) | (refine And.intro ?_ ?_ <;> split <;> omega))) (by (try dsimp only) <;> first | omega | ((try simp (disch := omega) only [w32_of, w64_of, w8_of]) <;> first | omega | (split <;> omega) | (refine And.intro ?_ ?_ <;> split <;> omega))) (fun x_9 e12 => ?_)
      have b13 : 0 ≤ x_9 ∧ x_9 ≤ 2048 := by rw [e12]; exact ii_kR_planMany hσ_4 _
      have c15 := w32_rng x_7
      have c16 := w32_rng x_9
      refine wp_if (fun h14 => ?_) (fun h14 => ?_)
      · try simp (disch := omega) only [w32_of, w64_of, w8_of, decide_eq_true_eq, decide_eq_false_iff_not] at h14
        refine wp_rdI (by (try dsimp only) <;> first | omega | ((try simp (disch := omega) only [w32_of, w64_of, w8_of]) <;> first | omega | (split <;> omega) | (refine And.intro ?_ ?_ <;> split <;> omega))) (by (try dsimp only) <;> first | omega | ((try simp (disch := omega) only [w32_of, w64_of, w8_of]) <;> first | omega | (split <;> omega) | (refine And.intro ?_ ?_ <;> split <;> omega))) (fun x_12 e17 => ?_)
        have b18 : 0 ≤ x_12 ∧ x_12 ≤ 2048 := by rw [e17]; exact ii_kR_pointMany hσ_4 _
        refine wp_rdI (by (try dsimp only) <;> first | omega | ((try simp (disch := omega) only [w32_of, w64_of, w8_of]) <;> first | omega | (split <;> omega) | (refine And.intro ?_ ?_ <;> split <;> omega))) (by (try dsimp only) <;> first | omega | ((try simp (disch := omega) only [w32_of, w64_of, w8_of]) <;> first | omega | (split <;> omega) | (refine And.intro ?_ ?_ <;> split <;> omega))) (fun x_14 e19 => ?_)
        have b20 : 0 ≤ x_14 ∧ x_14 ≤ 2048 := by rw [e19]; exact ii_kR_pointMany hσ_4 _
        have c22 := w32_rng x_12
        have c23 := w32_rng x_14
        refine wp_if (fun h21 => ?_) (fun h21 => ?_)
        · try simp (disch := omega) only [w32_of, w64_of, w8_of, decide_eq_true_eq, decide_eq_false_iff_not] at h21
          exact wp_some True.intro
        · try simp (disch := omega) only [w32_of, w64_of, w8_of, decide_eq_true_eq, decide_eq_false_iff_not] at h21
          exact wp_some True.intro
      · try simp (disch := omega) only [w32_of, w64_of, w8_of, decide_eq_true_eq, decide_eq_false_iff_not] at h14
        exact wp_some True.intro
    rintro x_20 _ g24
    refine wp_bd (P := fun r => True ∧ (0 ≤ r.2 ∧ r.2 ≤ 2048)) ?_ ?_
    · refine wp_whl (fun s => True ∧ (0 ≤ s.2 ∧ s.2 ≤ 2048)) (fun s => (2049 - s.2).toNat) ⟨True.intro, (by (try dsimp only) <;> first | omega | ((try simp (disch := omega) only [w32_of, w64_of, w8_of]) <;> first | omega | (split <;> omega) | (refine And.intro ?_ ?_ <;> split <;> omega)))⟩ ?_
      rintro ⟨like_21, k_22⟩ y27
      dsimp only at y27 ⊢
      obtain ⟨g25, g26⟩ := y27
      refine wp_if (fun h28 => ?_) (fun h28 => ?_)
      · try simp (disch := omega) only [w32_of, w64_of, w8_of, decide_eq_true_eq, decide_eq_false_iff_not] at h28
        have c29 := w32_rng slot_0
        refine wp_rdI (by (try dsimp only) <;> first | omega | ((try simp (disch := omega) only [w32_of, w64_of, w8_of]) <;> first | omega | (split <;> omega) | (refine And.intro ?_ ?_ <;> split <;> omega))) (by (try dsimp only) <;> first | omega | ((try simp (disch := omega) only [w32_of, w64_of, w8_of]) <;> first | omega | (split <;> omega) | (refine And.intro ?_ ?_ <;> split <;> omega))) (fun x_39 e30 => ?_)
        have b31 : 0 ≤ x_39 ∧ x_39 ≤ 2048 := by rw [e30]; exact ii_kR_planMany hσ_4 _
        have c33 := w32_rng k_22
        have c34 := w32_rng x_39
        refine wp_if (fun h32 => ?_) (fun h32 => ?_)
        · try simp (disch := omega) only [w32_of, w64_of, w8_of, decide_eq_true_eq, decide_eq_false_iff_not] at h32
          refine wp_bd (P := fun r => True) ?_ ?_
          · have c35 := w32_rng ((2048 * slot_0) + k_22)
            refine wp_rdI (by (try dsimp only) <;> first | omega | ((try simp (disch := omega) only [w32_of, w64_of, w8_of]) <;> first | omega | (split <;> omega) | (refine And.intro ?_ ?_ <;> split <;> omega))) (by (try dsimp only) <;> first | omega | ((try simp (disch := omega) only [w32_of, w64_of, w8_of]) <;> first | omega | (split <;> omega) | (refine And.intro ?_ ?_ <;> split <;> omega))) (fun x_42 e36 => ?_)
            have c38 := w32_rng ((2048 * other_0) + k_22)
            refine wp_rdI (by (try dsimp only) <;> first | omega | ((try simp (disch := omega) only [w32_of, w64_of, w8_of]) <;> first | omega | (split <;> omega) | (refine And.intro ?_ ?_ <;> split <;> omega))) (by (try dsimp only) <;> first | omega | ((try simp (disch := omega) only [w32_of, w64_of, w8_of]) <;> first | omega | (split <;> omega) | (refine And.intro ?_ ?_ <;> split <;> omega))) (fun x_44 e39 => ?_)
            have c42 := w32_rng x_42
            have c43 := w32_rng x_44
            refine wp_if (fun h41 => ?_) (fun h41 => ?_)
            · try simp (disch := omega) only [w32_of, w64_of, w8_of, decide_eq_true_eq, decide_eq_false_iff_not] at h41
              exact wp_some True.intro
            · try simp (disch := omega) only [w32_of, w64_of, w8_of, decide_eq_true_eq, decide_eq_false_iff_not] at h41
              exact wp_some True.intro
          rintro x_49 _ g44
          exact wp_some ⟨fun _ e => by cases e; exact ⟨⟨True.intro, (by (try dsimp only) <;> first | omega | ((try simp (disch := omega) only [w32_of, w64_of, w8_of]) <;> first | omega | (split <;> omega) | (refine And.intro ?_ ?_ <;> split <;> omega)))⟩, by (try dsimp only) <;> first | omega | ((try simp (disch := omega) only [w32_of, w64_of, w8_of]) <;> first | omega | (split <;> omega) | (refine And.intro ?_ ?_ <;> split <;> omega))⟩, fun _ e => (by cases e)⟩
        · try simp (disch := omega) only [w32_of, w64_of, w8_of, decide_eq_true_eq, decide_eq_false_iff_not] at h32
          exact wp_some ⟨fun _ e => (by cases e), fun _ e => by cases e; exact ⟨True.intro, (by (try dsimp only) <;> first | omega | ((try simp (disch := omega) only [w32_of, w64_of, w8_of]) <;> first | omega | (split <;> omega) | (refine And.intro ?_ ?_ <;> split <;> omega)))⟩⟩
      · try simp (disch := omega) only [w32_of, w64_of, w8_of, decide_eq_true_eq, decide_eq_false_iff_not] at h28
        exact wp_some ⟨fun _ e => (by cases e), fun _ e => by cases e; exact ⟨True.intro, (by (try dsimp only) <;> first | omega | ((try simp (disch := omega) only [w32_of, w64_of, w8_of]) <;> first | omega | (split <;> omega) | (refine And.intro ?_ ?_ <;> split <;> omega)))⟩⟩
    rintro ⟨like_57, k_58⟩ _ y47
    dsimp only at y47 ⊢
    obtain ⟨g45, g46⟩ := y47
    refine wp_bd (P := fun r => True ∧ (0 ≤ r.2 ∧ r.2 ≤ 2048)) ?_ ?_
    · refine wp_whl (fun s => True ∧ (0 ≤ s.2 ∧ s.2 ≤ 2048)) (fun s => (2049 - s.2).toNat) ⟨True.intro, (by (try dsimp only) <;> first | omega | ((try simp (disch := omega) only [w32_of, w64_of, w8_of]) <;> first | omega | (split <;> omega) | (refine And.intro ?_ ?_ <;> split <;> omega)))⟩ ?_
      rintro ⟨like_59, k_60⟩ y50
      dsimp only at y50 ⊢
      obtain ⟨g48, g49⟩ := y50
      refine wp_if (fun h51 => ?_) (fun h51 => ?_)
      · try simp (disch := omega) only [w32_of, w64_of, w8_of, decide_eq_true_eq, decide_eq_false_iff_not] at h51
        have c52 := w32_rng slot_0
        refine wp_rdI (by (try dsimp only) <;> first | omega | ((try simp (disch := omega) only [w32_of, w64_of, w8_of]) <;> first | omega | (split <;> omega) | (refine And.intro ?_ ?_ <;> split <;> omega))) (by (try dsimp only) <;> first | omega | ((try simp (disch := omega) only [w32_of, w64_of, w8_of]) <;> first | omega | (split <;> omega) | (refine And.intro ?_ ?_ <;> split <;> omega))) (fun x_77 e53 => ?_)
        have b54 : 0 ≤ x_77 ∧ x_77 ≤ 2048 := by rw [e53]; exact ii_kR_pointMany hσ_4 _
        have c56 := w32_rng k_60
        have c57 := w32_rng x_77
        refine wp_if (fun h55 => ?_) (fun h55 => ?_)
        · try simp (disch := omega) only [w32_of, w64_of, w8_of, decide_eq_true_eq, decide_eq_false_iff_not] at h55
          refine wp_bd (P := fun r => True) ?_ ?_
          · have c58 := w32_rng ((2048 * slot_0) + k_60)
            refine wp_rdI (by (try dsimp only) <;> first | omega | ((try simp (disch := omega) only [w32_of, w64_of, w8_of]) <;> first | omega | (split <;> omega) | (refine And.intro ?_ ?_ <;> split <;> omega))) (by (try dsimp only) <;> first | omega | ((try simp (disch := omega) only [w32_of, w64_of, w8_of]) <;> first | omega | (split <;> omega) | (refine And.intro ?_ ?_ <;> split <;> omega))) (fun x_80 e59 => ?_)
            have b60 : (-1000000000) ≤ x_80 ∧ x_80 ≤ 1000000000 := by rw [e59]; exact ii_kR_xs hσ_4 _
            have c61 := w32_rng ((2048 * other_0) + k_60)
            refine wp_rdI (by (try dsimp only) <;> first | omega | ((try simp (disch := omega) only [w32_of, w64_of, w8_of]) <;> first | omega | (split <;> omega) | (refine And.intro ?_ ?_ <;> split <;> omega))) (by (try dsimp only) <;> first | omega | ((try simp (disch := omega) only [w32_of, w64_of, w8_of]) <;> first | omega | (split <;> omega) | (refine And.intro ?_ ?_ <;> split <;> omega))) (fun x_82 e62 => ?_)
            have b63 : (-1000000000) ≤ x_82 ∧ x_82 ≤ 1000000000 := by rw [e62]; exact ii_kR_xs hσ_4 _
            have c65 := w32_rng x_80
            have c66 := w32_rng x_82
            refine wp_if (fun h64 => ?_) (fun h64 => ?_)
            · try simp (disch := omega) only [w32_of, w64_of, w8_of, decide_eq_true_eq, decide_eq_false_iff_not] at h64
              refine wp_rdI (by (try dsimp only) <;> first | omega | ((try simp (disch := omega) only [w32_of, w64_of, w8_of]) <;> first | omega | (split <;> omega) | (refine And.intro ?_ ?_ <;> split <;> omega))) (by (try dsimp only) <;> first | omega | ((try simp (disch := omega) only [w32_of, w64_of, w8_of]) <;> first | omega | (split <;> omega) | (refine And.intro ?_ ?_ <;> split <;> omega))) (fun x_85 e67 => ?_)
              have b68 : (-1000000000) ≤ x_85 ∧ x_85 ≤ 1000000000 := by rw [e67]; exact ii_kR_ys hσ_4 _
              refine wp_rdI (by (try dsimp only) <;> first | omega | ((try simp (disch := omega) only [w32_of, w64_of, w8_of]) <;> first | omega | (split <;> omega) | (refine And.intro ?_ ?_ <;> split <;> omega))) (by (try dsimp only) <;> first | omega | ((try simp (disch := omega) only [w32_of, w64_of, w8_of]) <;> first | omega | (split <;> omega) | (refine And.intro ?_ ?_ <;> split <;> omega))) (fun x_87 e69 => ?_)
              have b70 : (-1000000000) ≤ x_87 ∧ x_87 ≤ 1000000000 := by rw [e69]; exact ii_kR_ys hσ_4 _
              have c72 := w32_rng x_85
              have c73 := w32_rng x_87
              refine wp_if (fun h71 => ?_) (fun h71 => ?_)
              · try simp (disch := omega) only [w32_of, w64_of, w8_of, decide_eq_true_eq, decide_eq_false_iff_not] at h71
                exact wp_some True.intro
              · try simp (disch := omega) only [w32_of, w64_of, w8_of, decide_eq_true_eq, decide_eq_false_iff_not] at h71
                exact wp_some True.intro
            · try simp (disch := omega) only [w32_of, w64_of, w8_of, decide_eq_true_eq, decide_eq_false_iff_not] at h64
              exact wp_some True.intro
          rintro x_93 _ g74
          exact wp_some ⟨fun _ e => by cases e; exact ⟨⟨True.intro, (by (try dsimp only) <;> first | omega | ((try simp (disch := omega) only [w32_of, w64_of, w8_of]) <;> first | omega | (split <;> omega) | (refine And.intro ?_ ?_ <;> split <;> omega)))⟩, by (try dsimp only) <;> first | omega | ((try simp (disch := omega) only [w32_of, w64_of, w8_of]) <;> first | omega | (split <;> omega) | (refine And.intro ?_ ?_ <;> split <;> omega))⟩, fun _ e => (by cases e)⟩
        · try simp (disch := omega) only [w32_of, w64_of, w8_of, decide_eq_true_eq, decide_eq_false_iff_not] at h55
          exact wp_some ⟨fun _ e => (by cases e), fun _ e => by cases e; exact ⟨True.intro, (by (try dsimp only) <;> first | omega | ((try simp (disch := omega) only [w32_of, w64_of, w8_of]) <;> first | omega | (split <;> omega) | (refine And.intro ?_ ?_ <;> split <;> omega)))⟩⟩
      · try simp (disch := omega) only [w32_of, w64_of, w8_of, decide_eq_true_eq, decide_eq_false_iff_not] at h51
        exact wp_some ⟨fun _ e => (by cases e), fun _ e => by cases e; exact ⟨True.intro, (by (try dsimp only) <;> first | omega | ((try simp (disch := omega) only [w32_of, w64_of, w8_of]) <;> first | omega | (split <;> omega) | (refine And.intro ?_ ?_ <;> split <;> omega)))⟩⟩
    rintro ⟨like_101, k_102⟩ _ y77
    dsimp only at y77 ⊢
    obtain ⟨g75, g76⟩ := y77
    exact wp_some ⟨True.intro, hσ_4, (FR_tr (ms := [kR_thrown]) (FR_le (ms := [kR_thrown]) f2 (by decide)) f4 (by decide) (by decide))⟩
theorem s_R_count {σ : SG} {slot_0 : Int} {what_0 : Int} (hσ : II σ) (qslot_0 : (-2147483648) ≤ slot_0 ∧ slot_0 ≤ 2147483647) (qwhat_0 : (-2147483648) ≤ what_0 ∧ what_0 ≤ 2147483647) : wp_ (fR_count σ slot_0 what_0) (fun r => True ∧ II r.2 ∧ FR [kR_thrown] σ r.2) := by
  unfold fR_count
  refine wp_wfI hσ b_kR_thrown (by (try dsimp only) <;> first | omega | ((try simp (disch := omega) only [w32_of, w64_of, w8_of]) <;> first | omega | (split <;> omega) | (refine And.intro ?_ ?_ <;> split <;> omega))) (fun σ_1 hσ_1 e1 => ?_)
  have f2 := FR_sg e1
  have c3 := w32_rng what_0
  refine wp_bd (s_R_fails (σ := σ_1) (is_0 := (decide ((¬ ((fR_isSlot slot_0) = true)) ∨ (¬ ((fR_in (w32 what_0) 0 5) = true))))) (which_0 := 1) hσ_1 (by (try dsimp only) <;> first | omega | ((try simp (disch := omega) only [w32_of, w64_of, w8_of]) <;> first | omega | (split <;> omega) | (refine And.intro ?_ ?_ <;> split <;> omega)))) ?_
  rintro ⟨x_5, σ_4⟩ _ y6
  dsimp only at y6 ⊢
  obtain ⟨g4, hσ_4, f5⟩ := y6
  refine wp_if (fun h7 => ?_) (fun h7 => ?_)
  · try simp (disch := omega) only [w32_of, w64_of, w8_of, decide_eq_true_eq, decide_eq_false_iff_not] at h7
    exact wp_some ⟨True.intro, hσ_4, (FR_tr (ms := [kR_thrown]) (FR_le (ms := [kR_thrown]) f2 (by decide)) f5 (by decide) (by decide))⟩
  · have k8 := g4 (Bool.eq_false_iff.mpr h7)
    try simp (disch := omega) only [fR_isSlot, fR_in, decide_eq_false_iff_not, decide_eq_true_eq, Decidable.not_not, not_or, w32_of, w64_of] at k8
    try simp (disch := omega) only [w32_of, w64_of, w8_of, decide_eq_true_eq, decide_eq_false_iff_not] at h7
    refine wp_if (fun h9 => ?_) (fun h9 => ?_)
    · try simp (disch := omega) only [w32_of, w64_of, w8_of, decide_eq_true_eq, decide_eq_false_iff_not] at h9
      have c10 := w32_rng slot_0
      refine wp_rdI (by (try dsimp only) <;> first | omega | ((try simp (disch := omega) only [w32_of, w64_of, w8_of]) <;> first | omega | (split <;> omega) | (refine And.intro ?_ ?_ <;> split <;> omega))) (by (try dsimp only) <;> first | omega | ((try simp (disch := omega) only [w32_of, w64_of, w8_of]) <;> first | omega | (split <;> omega) | (refine And.intro ?_ ?_ <;> split <;> omega))) (fun x_8 e11 => ?_)
      have b12 : 0 ≤ x_8 ∧ x_8 ≤ 2048 := by rw [e11]; exact ii_kR_planMany hσ_4 _
      exact wp_some ⟨True.intro, hσ_4, (FR_tr (ms := [kR_thrown]) (FR_le (ms := [kR_thrown]) f2 (by decide)) f5 (by decide) (by decide))⟩
    · try simp (disch := omega) only [w32_of, w64_of, w8_of, decide_eq_true_eq, decide_eq_false_iff_not] at h9
      refine wp_if (fun h13 => ?_) (fun h13 => ?_)
      · try simp (disch := omega) only [w32_of, w64_of, w8_of, decide_eq_true_eq, decide_eq_false_iff_not] at h13
        have c14 := w32_rng slot_0
        refine wp_rdI (by (try dsimp only) <;> first | omega | ((try simp (disch := omega) only [w32_of, w64_of, w8_of]) <;> first | omega | (split <;> omega) | (refine And.intro ?_ ?_ <;> split <;> omega))) (by (try dsimp only) <;> first | omega | ((try simp (disch := omega) only [w32_of, w64_of, w8_of]) <;> first | omega | (split <;> omega) | (refine And.intro ?_ ?_ <;> split <;> omega))) (fun x_11 e15 => ?_)
        have b16 : 0 ≤ x_11 ∧ x_11 ≤ 2048 := by rw [e15]; exact ii_kR_pointMany hσ_4 _
        exact wp_some ⟨True.intro, hσ_4, (FR_tr (ms := [kR_thrown]) (FR_le (ms := [kR_thrown]) f2 (by decide)) f5 (by decide) (by decide))⟩
      · try simp (disch := omega) only [w32_of, w64_of, w8_of, decide_eq_true_eq, decide_eq_false_iff_not] at h13
        refine wp_if (fun h17 => ?_) (fun h17 => ?_)
        · try simp (disch := omega) only [w32_of, w64_of, w8_of, decide_eq_true_eq, decide_eq_false_iff_not] at h17
          have c18 := ii_kR_tapeMany hσ_4 0
          have c19 := FR_at f5 (c := kR_tapeMany) (by decide) 0
          have c20 := ii_kR_tapeMany hσ_1 0
          have c21 := FR_at f2 (c := kR_tapeMany) (by decide) 0
          have c22 := ii_kR_tapeMany hσ 0
          exact wp_some ⟨True.intro, hσ_4, (FR_tr (ms := [kR_thrown]) (FR_le (ms := [kR_thrown]) f2 (by decide)) f5 (by decide) (by decide))⟩
        · try simp (disch := omega) only [w32_of, w64_of, w8_of, decide_eq_true_eq, decide_eq_false_iff_not] at h17
          refine wp_if (fun h23 => ?_) (fun h23 => ?_)
          · try simp (disch := omega) only [w32_of, w64_of, w8_of, decide_eq_true_eq, decide_eq_false_iff_not] at h23
            have c24 := ii_kR_resultMany hσ_4 0
            have c25 := FR_at f5 (c := kR_resultMany) (by decide) 0
            have c26 := ii_kR_resultMany hσ_1 0
            have c27 := FR_at f2 (c := kR_resultMany) (by decide) 0
            have c28 := ii_kR_resultMany hσ 0
            exact wp_some ⟨True.intro, hσ_4, (FR_tr (ms := [kR_thrown]) (FR_le (ms := [kR_thrown]) f2 (by decide)) f5 (by decide) (by decide))⟩
          · try simp (disch := omega) only [w32_of, w64_of, w8_of, decide_eq_true_eq, decide_eq_false_iff_not] at h23
            refine wp_if (fun h29 => ?_) (fun h29 => ?_)
            · try simp (disch := omega) only [w32_of, w64_of, w8_of, decide_eq_true_eq, decide_eq_false_iff_not] at h29
              refine wp_bd (P := fun r => True ∧ (32 ≤ r.2 ∧ r.2 ≤ 32)) ?_ ?_
              · refine wp_whl (fun s => True ∧ (0 ≤ s.2 ∧ s.2 ≤ 32)) (fun s => (33 - s.2).toNat) ⟨True.intro, (by (try dsimp only) <;> first | omega | ((try simp (disch := omega) only [w32_of, w64_of, w8_of]) <;> first | omega | (split <;> omega) | (refine And.intro ?_ ?_ <;> split <;> omega)))⟩ ?_
                rintro ⟨n_16, s_17⟩ y32
                dsimp only at y32 ⊢
                obtain ⟨g30, g31⟩ := y32
                have c34 := w32_rng s_17
                refine wp_if (fun h33 => ?_) (fun h33 => ?_)
                · try simp (disch := omega) only [w32_of, w64_of, w8_of, decide_eq_true_eq, decide_eq_false_iff_not] at h33
                  refine wp_bd (P := fun r => True) ?_ ?_
                  · refine wp_bd (s_R_has (σ := σ_4) (slot_0 := s_17) hσ_4 (by (try dsimp only) <;> first | omega | ((try simp (disch := omega) only [w32_of, w64_of, w8_of]) <;> first | omega | (split <;> omega) | (refine And.intro ?_ ?_ <;> split <;> omega)))) ?_
                    rintro x_27 _ g35
                    refine wp_if (fun h36 => ?_) (fun h36 => ?_)
                    · try simp (disch := omega) only [w32_of, w64_of, w8_of, decide_eq_true_eq, decide_eq_false_iff_not] at h36
                      exact wp_some True.intro
                    · try simp (disch := omega) only [w32_of, w64_of, w8_of, decide_eq_true_eq, decide_eq_false_iff_not] at h36
                      exact wp_some True.intro
                  rintro x_31 _ g37
                  exact wp_some ⟨fun _ e => by cases e; exact ⟨⟨True.intro, (by (try dsimp only) <;> first | omega | ((try simp (disch := omega) only [w32_of, w64_of, w8_of]) <;> first | omega | (split <;> omega) | (refine And.intro ?_ ?_ <;> split <;> omega)))⟩, by (try dsimp only) <;> first | omega | ((try simp (disch := omega) only [w32_of, w64_of, w8_of]) <;> first | omega | (split <;> omega) | (refine And.intro ?_ ?_ <;> split <;> omega))⟩, fun _ e => (by cases e)⟩
                · try simp (disch := omega) only [w32_of, w64_of, w8_of, decide_eq_true_eq, decide_eq_false_iff_not] at h33
                  exact wp_some ⟨fun _ e => (by cases e), fun _ e => by cases e; exact ⟨True.intro, (by (try dsimp only) <;> first | omega | ((try simp (disch := omega) only [w32_of, w64_of, w8_of]) <;> first | omega | (split <;> omega) | (refine And.intro ?_ ?_ <;> split <;> omega)))⟩⟩
              rintro ⟨n_38, s_39⟩ _ y40
              dsimp only at y40 ⊢
              obtain ⟨g38, g39⟩ := y40
              exact wp_some ⟨True.intro, hσ_4, (FR_tr (ms := [kR_thrown]) (FR_le (ms := [kR_thrown]) f2 (by decide)) f5 (by decide) (by decide))⟩
            · try simp (disch := omega) only [w32_of, w64_of, w8_of, decide_eq_true_eq, decide_eq_false_iff_not] at h29
              have c41 := ii_kR_foundMany hσ_4 0
              have c42 := FR_at f5 (c := kR_foundMany) (by decide) 0
              have c43 := ii_kR_foundMany hσ_1 0
              have c44 := FR_at f2 (c := kR_foundMany) (by decide) 0
              have c45 := ii_kR_foundMany hσ 0
              exact wp_some ⟨True.intro, hσ_4, (FR_tr (ms := [kR_thrown]) (FR_le (ms := [kR_thrown]) f2 (by decide)) f5 (by decide) (by decide))⟩
theorem s_R_box {σ : SG} {slot_0 : Int} (hσ : II σ) (qslot_0 : 0 ≤ slot_0 ∧ slot_0 ≤ 31) : wp_ (fR_box σ slot_0) (fun r => True ∧ II r.2 ∧ FR [kR_highX, kR_highY, kR_lowX, kR_lowY] σ r.2) := by
  unfold fR_box
  have c1 := w32_rng slot_0
  refine wp_rdI (by (try dsimp only) <;> first | omega | ((try simp (disch := omega) only [w32_of, w64_of, w8_of]) <;> first | omega | (split <;> omega) | (refine And.intro ?_ ?_ <;> split <;> omega))) (by (try dsimp only) <;> first | omega | ((try simp (disch := omega) only [w32_of, w64_of, w8_of]) <;> first | omega | (split <;> omega) | (refine And.intro ?_ ?_ <;> split <;> omega))) (fun x_1 e2 => ?_)
  have b3 : 0 ≤ x_1 ∧ x_1 ≤ 2048 := by rw [e2]; exact ii_kR_pointMany hσ _
  have c5 := w32_rng x_1
  refine wp_if (fun h4 => ?_) (fun h4 => ?_)
  · try simp (disch := omega) only [w32_of, w64_of, w8_of, decide_eq_true_eq, decide_eq_false_iff_not] at h4
    exact wp_some ⟨True.intro, hσ, (FR_refl _ _)⟩
  · try simp (disch := omega) only [w32_of, w64_of, w8_of, decide_eq_true_eq, decide_eq_false_iff_not] at h4
    refine wp_waI hσ b_kR_lowX (by (try dsimp only) <;> first | omega | ((try simp (disch := omega) only [w32_of, w64_of, w8_of]) <;> first | omega | (split <;> omega) | (refine And.intro ?_ ?_ <;> split <;> omega))) (by (try dsimp only) <;> first | omega | ((try simp (disch := omega) only [w32_of, w64_of, w8_of]) <;> first | omega | (split <;> omega) | (refine And.intro ?_ ?_ <;> split <;> omega))) (by (try dsimp only) <;> first | omega | ((try simp (disch := omega) only [w32_of, w64_of, w8_of]) <;> first | omega | (split <;> omega) | (refine And.intro ?_ ?_ <;> split <;> omega))) (fun σ_4 hσ_4 e6 => ?_)
    have f7 := FR_sg e6
    refine wp_waI hσ_4 b_kR_lowY (by (try dsimp only) <;> first | omega | ((try simp (disch := omega) only [w32_of, w64_of, w8_of]) <;> first | omega | (split <;> omega) | (refine And.intro ?_ ?_ <;> split <;> omega))) (by (try dsimp only) <;> first | omega | ((try simp (disch := omega) only [w32_of, w64_of, w8_of]) <;> first | omega | (split <;> omega) | (refine And.intro ?_ ?_ <;> split <;> omega))) (by (try dsimp only) <;> first | omega | ((try simp (disch := omega) only [w32_of, w64_of, w8_of]) <;> first | omega | (split <;> omega) | (refine And.intro ?_ ?_ <;> split <;> omega))) (fun σ_6 hσ_6 e8 => ?_)
    have f9 := FR_sg e8
    refine wp_waI hσ_6 b_kR_highX (by (try dsimp only) <;> first | omega | ((try simp (disch := omega) only [w32_of, w64_of, w8_of]) <;> first | omega | (split <;> omega) | (refine And.intro ?_ ?_ <;> split <;> omega))) (by (try dsimp only) <;> first | omega | ((try simp (disch := omega) only [w32_of, w64_of, w8_of]) <;> first | omega | (split <;> omega) | (refine And.intro ?_ ?_ <;> split <;> omega))) (by (try dsimp only) <;> first | omega | ((try simp (disch := omega) only [w32_of, w64_of, w8_of]) <;> first | omega | (split <;> omega) | (refine And.intro ?_ ?_ <;> split <;> omega))) (fun σ_8 hσ_8 e10 => ?_)
    have f11 := FR_sg e10
    refine wp_waI hσ_8 b_kR_highY (by (try dsimp only) <;> first | omega | ((try simp (disch := omega) only [w32_of, w64_of, w8_of]) <;> first | omega | (split <;> omega) | (refine And.intro ?_ ?_ <;> split <;> omega))) (by (try dsimp only) <;> first | omega | ((try simp (disch := omega) only [w32_of, w64_of, w8_of]) <;> first | omega | (split <;> omega) | (refine And.intro ?_ ?_ <;> split <;> omega))) (by (try dsimp only) <;> first | omega | ((try simp (disch := omega) only [w32_of, w64_of, w8_of]) <;> first | omega | (split <;> omega) | (refine And.intro ?_ ?_ <;> split <;> omega))) (fun σ_10 hσ_10 e12 => ?_)
    have f13 := FR_sg e12
    refine wp_bd (P := fun r => (0 ≤ r.1 ∧ r.1 ≤ 65536) ∧ II r.2 ∧ FR [kR_highX, kR_highY, kR_lowX, kR_lowY] σ_10 r.2) ?_ ?_
    · refine wp_whl (fun s => (0 ≤ s.1 ∧ s.1 ≤ 65536) ∧ II s.2 ∧ FR [kR_highX, kR_highY, kR_lowX, kR_lowY] σ_10 s.2) (fun s => (65537 - s.1).toNat) ⟨(by (try dsimp only) <;> first | omega | ((try simp (disch := omega) only [w32_of, w64_of, w8_of]) <;> first | omega | (split <;> omega) | (refine And.intro ?_ ?_ <;> split <;> omega))), hσ_10, (FR_refl _ _)⟩ ?_
      rintro ⟨k_12, σ_13⟩ y16
      dsimp only at y16 ⊢
      obtain ⟨g14, hσ_13, f15⟩ := y16
      refine wp_rdI (by (try dsimp only) <;> first | omega | ((try simp (disch := omega) only [w32_of, w64_of, w8_of]) <;> first | omega | (split <;> omega) | (refine And.intro ?_ ?_ <;> split <;> omega))) (by (try dsimp only) <;> first | omega | ((try simp (disch := omega) only [w32_of, w64_of, w8_of]) <;> first | omega | (split <;> omega) | (refine And.intro ?_ ?_ <;> split <;> omega))) (fun x_21 e17 => ?_)
      have b18 : 0 ≤ x_21 ∧ x_21 ≤ 2048 := by rw [e17]; exact ii_kR_pointMany hσ_13 _
      have c20 := w32_rng k_12
      have c21 := w32_rng ((2048 * slot_0) + x_21)
      refine wp_if (fun h19 => ?_) (fun h19 => ?_)
      · try simp (disch := omega) only [w32_of, w64_of, w8_of, decide_eq_true_eq, decide_eq_false_iff_not] at h19
        refine wp_bd (P := fun r => ((-1000000000) ≤ r ∧ r ≤ 4000000000)) ?_ ?_
        · refine wp_rdI (by (try dsimp only) <;> first | omega | ((try simp (disch := omega) only [w32_of, w64_of, w8_of]) <;> first | omega | (split <;> omega) | (refine And.intro ?_ ?_ <;> split <;> omega))) (by (try dsimp only) <;> first | omega | ((try simp (disch := omega) only [w32_of, w64_of, w8_of]) <;> first | omega | (split <;> omega) | (refine And.intro ?_ ?_ <;> split <;> omega))) (fun x_35 e22 => ?_)
          have b23 : (-1000000000) ≤ x_35 ∧ x_35 ≤ 1000000000 := by rw [e22]; exact ii_kR_xs hσ_13 _
          refine wp_rdI (by (try dsimp only) <;> first | omega | ((try simp (disch := omega) only [w32_of, w64_of, w8_of]) <;> first | omega | (split <;> omega) | (refine And.intro ?_ ?_ <;> split <;> omega))) (by (try dsimp only) <;> first | omega | ((try simp (disch := omega) only [w32_of, w64_of, w8_of]) <;> first | omega | (split <;> omega) | (refine And.intro ?_ ?_ <;> split <;> omega))) (fun x_37 e24 => ?_)
          have b25 : (-1000000000) ≤ x_37 ∧ x_37 ≤ 4000000000 := by rw [e24]; exact ii_kR_lowX hσ_13 _
          have c27 := w32_rng x_35
          have c28 := w64_rng (w32 x_35)
          have c29 := w64_rng x_37
          refine wp_if (fun h26 => ?_) (fun h26 => ?_)
          · try simp (disch := omega) only [w32_of, w64_of, w8_of, decide_eq_true_eq, decide_eq_false_iff_not] at h26
            refine wp_rdI (by (try dsimp only) <;> first | omega | ((try simp (disch := omega) only [w32_of, w64_of, w8_of]) <;> first | omega | (split <;> omega) | (refine And.intro ?_ ?_ <;> split <;> omega))) (by (try dsimp only) <;> first | omega | ((try simp (disch := omega) only [w32_of, w64_of, w8_of]) <;> first | omega | (split <;> omega) | (refine And.intro ?_ ?_ <;> split <;> omega))) (fun x_40 e30 => ?_)
            have b31 : (-1000000000) ≤ x_40 ∧ x_40 ≤ 1000000000 := by rw [e30]; exact ii_kR_xs hσ_13 _
            have c32 := w32_rng x_40
            exact wp_some (by (try dsimp only) <;> first | omega | ((try simp (disch := omega) only [w32_of, w64_of, w8_of]) <;> first | omega | (split <;> omega) | (refine And.intro ?_ ?_ <;> split <;> omega)))
          · try simp (disch := omega) only [w32_of, w64_of, w8_of, decide_eq_true_eq, decide_eq_false_iff_not] at h26
            refine wp_rdI (by (try dsimp only) <;> first | omega | ((try simp (disch := omega) only [w32_of, w64_of, w8_of]) <;> first | omega | (split <;> omega) | (refine And.intro ?_ ?_ <;> split <;> omega))) (by (try dsimp only) <;> first | omega | ((try simp (disch := omega) only [w32_of, w64_of, w8_of]) <;> first | omega | (split <;> omega) | (refine And.intro ?_ ?_ <;> split <;> omega))) (fun x_43 e33 => ?_)
            have b34 : (-1000000000) ≤ x_43 ∧ x_43 ≤ 4000000000 := by rw [e33]; exact ii_kR_lowX hσ_13 _
            exact wp_some (by (try dsimp only) <;> first | omega | ((try simp (disch := omega) only [w32_of, w64_of, w8_of]) <;> first | omega | (split <;> omega) | (refine And.intro ?_ ?_ <;> split <;> omega)))
        rintro x_46 _ g35
        refine wp_waI hσ_13 b_kR_lowX (by (try dsimp only) <;> first | omega | ((try simp (disch := omega) only [w32_of, w64_of, w8_of]) <;> first | omega | (split <;> omega) | (refine And.intro ?_ ?_ <;> split <;> omega))) (by (try dsimp only) <;> first | omega | ((try simp (disch := omega) only [w32_of, w64_of, w8_of]) <;> first | omega | (split <;> omega) | (refine And.intro ?_ ?_ <;> split <;> omega))) (by (try dsimp only) <;> first | omega | ((try simp (disch := omega) only [w32_of, w64_of, w8_of]) <;> first | omega | (split <;> omega) | (refine And.intro ?_ ?_ <;> split <;> omega))) (fun σ_47 hσ_47 e36 => ?_)
        have f37 := FR_sg e36
        refine wp_bd (P := fun r => ((-1000000000) ≤ r ∧ r ≤ 4000000000)) ?_ ?_
        · refine wp_rdI (by (try dsimp only) <;> first | omega | ((try simp (disch := omega) only [w32_of, w64_of, w8_of]) <;> first | omega | (split <;> omega) | (refine And.intro ?_ ?_ <;> split <;> omega))) (by (try dsimp only) <;> first | omega | ((try simp (disch := omega) only [w32_of, w64_of, w8_of]) <;> first | omega | (split <;> omega) | (refine And.intro ?_ ?_ <;> split <;> omega))) (fun x_60 e38 => ?_)
          have b39 : (-1000000000) ≤ x_60 ∧ x_60 ≤ 1000000000 := by rw [e38]; exact ii_kR_ys hσ_47 _
          refine wp_rdI (by (try dsimp only) <;> first | omega | ((try simp (disch := omega) only [w32_of, w64_of, w8_of]) <;> first | omega | (split <;> omega) | (refine And.intro ?_ ?_ <;> split <;> omega))) (by (try dsimp only) <;> first | omega | ((try simp (disch := omega) only [w32_of, w64_of, w8_of]) <;> first | omega | (split <;> omega) | (refine And.intro ?_ ?_ <;> split <;> omega))) (fun x_62 e40 => ?_)
          have b41 : (-1000000000) ≤ x_62 ∧ x_62 ≤ 4000000000 := by rw [e40]; exact ii_kR_lowY hσ_47 _
          have c43 := w32_rng x_60
          have c44 := w64_rng (w32 x_60)
          have c45 := w64_rng x_62
          refine wp_if (fun h42 => ?_) (fun h42 => ?_)
          · try simp (disch := omega) only [w32_of, w64_of, w8_of, decide_eq_true_eq, decide_eq_false_iff_not] at h42
            refine wp_rdI (by (try dsimp only) <;> first | omega | ((try simp (disch := omega) only [w32_of, w64_of, w8_of]) <;> first | omega | (split <;> omega) | (refine And.intro ?_ ?_ <;> split <;> omega))) (by (try dsimp only) <;> first | omega | ((try simp (disch := omega) only [w32_of, w64_of, w8_of]) <;> first | omega | (split <;> omega) | (refine And.intro ?_ ?_ <;> split <;> omega))) (fun x_65 e46 => ?_)
            have b47 : (-1000000000) ≤ x_65 ∧ x_65 ≤ 1000000000 := by rw [e46]; exact ii_kR_ys hσ_47 _
            have c48 := w32_rng x_65
            exact wp_some (by (try dsimp only) <;> first | omega | ((try simp (disch := omega) only [w32_of, w64_of, w8_of]) <;> first | omega | (split <;> omega) | (refine And.intro ?_ ?_ <;> split <;> omega)))
          · try simp (disch := omega) only [w32_of, w64_of, w8_of, decide_eq_true_eq, decide_eq_false_iff_not] at h42
            refine wp_rdI (by (try dsimp only) <;> first | omega | ((try simp (disch := omega) only [w32_of, w64_of, w8_of]) <;> first | omega | (split <;> omega) | (refine And.intro ?_ ?_ <;> split <;> omega))) (by (try dsimp only) <;> first | omega | ((try simp (disch := omega) only [w32_of, w64_of, w8_of]) <;> first | omega | (split <;> omega) | (refine And.intro ?_ ?_ <;> split <;> omega))) (fun x_68 e49 => ?_)
            have b50 : (-1000000000) ≤ x_68 ∧ x_68 ≤ 4000000000 := by rw [e49]; exact ii_kR_lowY hσ_47 _
            exact wp_some (by (try dsimp only) <;> first | omega | ((try simp (disch := omega) only [w32_of, w64_of, w8_of]) <;> first | omega | (split <;> omega) | (refine And.intro ?_ ?_ <;> split <;> omega)))
        rintro x_71 _ g51
        refine wp_waI hσ_47 b_kR_lowY (by (try dsimp only) <;> first | omega | ((try simp (disch := omega) only [w32_of, w64_of, w8_of]) <;> first | omega | (split <;> omega) | (refine And.intro ?_ ?_ <;> split <;> omega))) (by (try dsimp only) <;> first | omega | ((try simp (disch := omega) only [w32_of, w64_of, w8_of]) <;> first | omega | (split <;> omega) | (refine And.intro ?_ ?_ <;> split <;> omega))) (by (try dsimp only) <;> first | omega | ((try simp (disch := omega) only [w32_of, w64_of, w8_of]) <;> first | omega | (split <;> omega) | (refine And.intro ?_ ?_ <;> split <;> omega))) (fun σ_72 hσ_72 e52 => ?_)
        have f53 := FR_sg e52
        refine wp_bd (P := fun r => ((-4000000000) ≤ r ∧ r ≤ 1000000000)) ?_ ?_
        · refine wp_rdI (by (try dsimp only) <;> first | omega | ((try simp (disch := omega) only [w32_of, w64_of, w8_of]) <;> first | omega | (split <;> omega) | (refine And.intro ?_ ?_ <;> split <;> omega))) (by (try dsimp only) <;> first | omega | ((try simp (disch := omega) only [w32_of, w64_of, w8_of]) <;> first | omega | (split <;> omega) | (refine And.intro ?_ ?_ <;> split <;> omega))) (fun x_85 e54 => ?_)
          have b55 : (-1000000000) ≤ x_85 ∧ x_85 ≤ 1000000000 := by rw [e54]; exact ii_kR_xs hσ_72 _
          refine wp_rdI (by (try dsimp only) <;> first | omega | ((try simp (disch := omega) only [w32_of, w64_of, w8_of]) <;> first | omega | (split <;> omega) | (refine And.intro ?_ ?_ <;> split <;> omega))) (by (try dsimp only) <;> first | omega | ((try simp (disch := omega) only [w32_of, w64_of, w8_of]) <;> first | omega | (split <;> omega) | (refine And.intro ?_ ?_ <;> split <;> omega))) (fun x_87 e56 => ?_)
          have b57 : (-4000000000) ≤ x_87 ∧ x_87 ≤ 1000000000 := by rw [e56]; exact ii_kR_highX hσ_72 _
          have c59 := w64_rng x_87
          have c60 := w32_rng x_85
          have c61 := w64_rng (w32 x_85)
          refine wp_if (fun h58 => ?_) (fun h58 => ?_)
          · try simp (disch := omega) only [w32_of, w64_of, w8_of, decide_eq_true_eq, decide_eq_false_iff_not] at h58
            refine wp_rdI (by (try dsimp only) <;> first | omega | ((try simp (disch := omega) only [w32_of, w64_of, w8_of]) <;> first | omega | (split <;> omega) | (refine And.intro ?_ ?_ <;> split <;> omega))) (by (try dsimp only) <;> first | omega | ((try simp (disch := omega) only [w32_of, w64_of, w8_of]) <;> first | omega | (split <;> omega) | (refine And.intro ?_ ?_ <;> split <;> omega))) (fun x_90 e62 => ?_)
            have b63 : (-1000000000) ≤ x_90 ∧ x_90 ≤ 1000000000 := by rw [e62]; exact ii_kR_xs hσ_72 _
            have c64 := w32_rng x_90
            exact wp_some (by (try dsimp only) <;> first | omega | ((try simp (disch := omega) only [w32_of, w64_of, w8_of]) <;> first | omega | (split <;> omega) | (refine And.intro ?_ ?_ <;> split <;> omega)))
          · try simp (disch := omega) only [w32_of, w64_of, w8_of, decide_eq_true_eq, decide_eq_false_iff_not] at h58
            refine wp_rdI (by (try dsimp only) <;> first | omega | ((try simp (disch := omega) only [w32_of, w64_of, w8_of]) <;> first | omega | (split <;> omega) | (refine And.intro ?_ ?_ <;> split <;> omega))) (by (try dsimp only) <;> first | omega | ((try simp (disch := omega) only [w32_of, w64_of, w8_of]) <;> first | omega | (split <;> omega) | (refine And.intro ?_ ?_ <;> split <;> omega))) (fun x_93 e65 => ?_)
            have b66 : (-4000000000) ≤ x_93 ∧ x_93 ≤ 1000000000 := by rw [e65]; exact ii_kR_highX hσ_72 _
            exact wp_some (by (try dsimp only) <;> first | omega | ((try simp (disch := omega) only [w32_of, w64_of, w8_of]) <;> first | omega | (split <;> omega) | (refine And.intro ?_ ?_ <;> split <;> omega)))
        rintro x_96 _ g67
        refine wp_waI hσ_72 b_kR_highX (by (try dsimp only) <;> first | omega | ((try simp (disch := omega) only [w32_of, w64_of, w8_of]) <;> first | omega | (split <;> omega) | (refine And.intro ?_ ?_ <;> split <;> omega))) (by (try dsimp only) <;> first | omega | ((try simp (disch := omega) only [w32_of, w64_of, w8_of]) <;> first | omega | (split <;> omega) | (refine And.intro ?_ ?_ <;> split <;> omega))) (by (try dsimp only) <;> first | omega | ((try simp (disch := omega) only [w32_of, w64_of, w8_of]) <;> first | omega | (split <;> omega) | (refine And.intro ?_ ?_ <;> split <;> omega))) (fun σ_97 hσ_97 e68 => ?_)
        have f69 := FR_sg e68
        refine wp_bd (P := fun r => ((-4000000000) ≤ r ∧ r ≤ 1000000000)) ?_ ?_
        · refine wp_rdI (by (try dsimp only) <;> first | omega | ((try simp (disch := omega) only [w32_of, w64_of, w8_of]) <;> first | omega | (split <;> omega) | (refine And.intro ?_ ?_ <;> split <;> omega))) (by (try dsimp only) <;> first | omega | ((try simp (disch := omega) only [w32_of, w64_of, w8_of]) <;> first | omega | (split <;> omega) | (refine And.intro ?_ ?_ <;> split <;> omega))) (fun x_110 e70 => ?_)
          have b71 : (-1000000000) ≤ x_110 ∧ x_110 ≤ 1000000000 := by rw [e70]; exact ii_kR_ys hσ_97 _
          refine wp_rdI (by (try dsimp only) <;> first | omega | ((try simp (disch := omega) only [w32_of, w64_of, w8_of]) <;> first | omega | (split <;> omega) | (refine And.intro ?_ ?_ <;> split <;> omega))) (by (try dsimp only) <;> first | omega | ((try simp (disch := omega) only [w32_of, w64_of, w8_of]) <;> first | omega | (split <;> omega) | (refine And.intro ?_ ?_ <;> split <;> omega))) (fun x_112 e72 => ?_)
          have b73 : (-4000000000) ≤ x_112 ∧ x_112 ≤ 1000000000 := by rw [e72]; exact ii_kR_highY hσ_97 _
          have c75 := w64_rng x_112
          have c76 := w32_rng x_110
          have c77 := w64_rng (w32 x_110)
          refine wp_if (fun h74 => ?_) (fun h74 => ?_)
          · try simp (disch := omega) only [w32_of, w64_of, w8_of, decide_eq_true_eq, decide_eq_false_iff_not] at h74
            refine wp_rdI (by (try dsimp only) <;> first | omega | ((try simp (disch := omega) only [w32_of, w64_of, w8_of]) <;> first | omega | (split <;> omega) | (refine And.intro ?_ ?_ <;> split <;> omega))) (by (try dsimp only) <;> first | omega | ((try simp (disch := omega) only [w32_of, w64_of, w8_of]) <;> first | omega | (split <;> omega) | (refine And.intro ?_ ?_ <;> split <;> omega))) (fun x_115 e78 => ?_)
            have b79 : (-1000000000) ≤ x_115 ∧ x_115 ≤ 1000000000 := by rw [e78]; exact ii_kR_ys hσ_97 _
            have c80 := w32_rng x_115
            exact wp_some (by (try dsimp only) <;> first | omega | ((try simp (disch := omega) only [w32_of, w64_of, w8_of]) <;> first | omega | (split <;> omega) | (refine And.intro ?_ ?_ <;> split <;> omega)))
          · try simp (disch := omega) only [w32_of, w64_of, w8_of, decide_eq_true_eq, decide_eq_false_iff_not] at h74
            refine wp_rdI (by (try dsimp only) <;> first | omega | ((try simp (disch := omega) only [w32_of, w64_of, w8_of]) <;> first | omega | (split <;> omega) | (refine And.intro ?_ ?_ <;> split <;> omega))) (by (try dsimp only) <;> first | omega | ((try simp (disch := omega) only [w32_of, w64_of, w8_of]) <;> first | omega | (split <;> omega) | (refine And.intro ?_ ?_ <;> split <;> omega))) (fun x_118 e81 => ?_)
            have b82 : (-4000000000) ≤ x_118 ∧ x_118 ≤ 1000000000 := by rw [e81]; exact ii_kR_highY hσ_97 _
            exact wp_some (by (try dsimp only) <;> first | omega | ((try simp (disch := omega) only [w32_of, w64_of, w8_of]) <;> first | omega | (split <;> omega) | (refine And.intro ?_ ?_ <;> split <;> omega)))
        rintro x_121 _ g83
        refine wp_waI hσ_97 b_kR_highY (by (try dsimp only) <;> first | omega | ((try simp (disch := omega) only [w32_of, w64_of, w8_of]) <;> first | omega | (split <;> omega) | (refine And.intro ?_ ?_ <;> split <;> omega))) (by (try dsimp only) <;> first | omega | ((try simp (disch := omega) only [w32_of, w64_of, w8_of]) <;> first | omega | (split <;> omega) | (refine And.intro ?_ ?_ <;> split <;> omega))) (by (try dsimp only) <;> first | omega | ((try simp (disch := omega) only [w32_of, w64_of, w8_of]) <;> first | omega | (split <;> omega) | (refine And.intro ?_ ?_ <;> split <;> omega))) (fun σ_122 hσ_122 e84 => ?_)
        have f85 := FR_sg e84
        exact wp_some ⟨fun _ e => by cases e; exact ⟨⟨(by (try dsimp only) <;> first | omega | ((try simp (disch := omega) only [w32_of, w64_of, w8_of]) <;> first | omega | (split <;> omega) | (refine And.intro ?_ ?_ <;> split <;> omega))), hσ_122, (FR_tr (ms := [kR_highX, kR_highY, kR_lowX, kR_lowY]) (FR_tr (ms := [kR_highX, kR_highY, kR_lowX, kR_lowY]) (FR_tr (ms := [kR_highX, kR_highY, kR_lowX, kR_lowY]) (FR_tr (ms := [kR_highX, kR_highY, kR_lowX, kR_lowY]) (FR_le (ms := [kR_highX, kR_highY, kR_lowX, kR_lowY]) f15 (by decide)) f37 (by decide) (by decide)) f53 (by decide) (by decide)) f69 (by decide) (by decide)) f85 (by decide) (by decide))⟩, by (try dsimp only) <;> first | omega | ((try simp (disch := omega) only [w32_of, w64_of, w8_of]) <;> first | omega | (split <;> omega) | (refine And.intro ?_ ?_ <;> split <;> omega))⟩, fun _ e => (by cases e)⟩
      · try simp (disch := omega) only [w32_of, w64_of, w8_of, decide_eq_true_eq, decide_eq_false_iff_not] at h19
        exact wp_some ⟨fun _ e => (by cases e), fun _ e => by cases e; exact ⟨(by (try dsimp only) <;> first | omega | ((try simp (disch := omega) only [w32_of, w64_of, w8_of]) <;> first | omega | (split <;> omega) | (refine And.intro ?_ ?_ <;> split <;> omega))), hσ_13, (FR_le (ms := [kR_highX, kR_highY, kR_lowX, kR_lowY]) f15 (by decide))⟩⟩
    rintro ⟨k_142, σ_143⟩ _ y88
    dsimp only at y88 ⊢
    obtain ⟨g86, hσ_143, f87⟩ := y88
    exact wp_some ⟨True.intro, hσ_143, (FR_tr (ms := [kR_highX, kR_highY, kR_lowX, kR_lowY]) (FR_tr (ms := [kR_highX, kR_highY, kR_lowX, kR_lowY]) (FR_tr (ms := [kR_highX, kR_highY, kR_lowX, kR_lowY]) (FR_tr (ms := [kR_highX, kR_highY, kR_lowX, kR_lowY]) (FR_le (ms := [kR_highX, kR_highY, kR_lowX, kR_lowY]) f7 (by decide)) f9 (by decide) (by decide)) f11 (by decide) (by decide)) f13 (by decide) (by decide)) f87 (by decide) (by decide))⟩
theorem s_R_bounds {σ : SG} {slot_0 : Int} {what_0 : Int} (hσ : II σ) (qslot_0 : (-2147483648) ≤ slot_0 ∧ slot_0 ≤ 2147483647) (qwhat_0 : (-2147483648) ≤ what_0 ∧ what_0 ≤ 2147483647) : wp_ (fR_bounds σ slot_0 what_0) (fun r => ((-4000000000) ≤ r.1 ∧ r.1 ≤ 4000000000) ∧ II r.2 ∧ FR [kR_highX, kR_highY, kR_lowX, kR_lowY, kR_thrown] σ r.2) := by
  unfold fR_bounds
  refine wp_wfI hσ b_kR_thrown (by (try dsimp only) <;> first | omega | ((try simp (disch := omega) only [w32_of, w64_of, w8_of]) <;> first | omega | (split <;> omega) | (refine And.intro ?_ ?_ <;> split <;> omega))) (fun σ_1 hσ_1 e1 => ?_)
  have f2 := FR_sg e1
  refine wp_bd (s_R_fails (σ := σ_1) (is_0 := (decide (¬ ((fR_isSlot slot_0) = true)))) (which_0 := 1) hσ_1 (by (try dsimp only) <;> first | omega | ((try simp (disch := omega) only [w32_of, w64_of, w8_of]) <;> first | omega | (split <;> omega) | (refine And.intro ?_ ?_ <;> split <;> omega)))) ?_
  rintro ⟨x_47, σ_46⟩ _ y5
  dsimp only at y5 ⊢
  obtain ⟨g3, hσ_46, f4⟩ := y5
  refine wp_if (fun h6 => ?_) (fun h6 => ?_)
  · try simp (disch := omega) only [w32_of, w64_of, w8_of, decide_eq_true_eq, decide_eq_false_iff_not] at h6
    exact wp_some ⟨(by (try dsimp only) <;> first | omega | ((try simp (disch := omega) only [w32_of, w64_of, w8_of]) <;> first | omega | (split <;> omega) | (refine And.intro ?_ ?_ <;> split <;> omega))), hσ_46, (FR_tr (ms := [kR_highX, kR_highY, kR_lowX, kR_lowY, kR_thrown]) (FR_le (ms := [kR_highX, kR_highY, kR_lowX, kR_lowY, kR_thrown]) f2 (by decide)) f4 (by decide) (by decide))⟩
  · have k7 := g3 (Bool.eq_false_iff.mpr h6)
    try simp (disch := omega) only [fR_isSlot, fR_in, decide_eq_false_iff_not, decide_eq_true_eq, Decidable.not_not, not_or, w32_of, w64_of] at k7
    try simp (disch := omega) only [w32_of, w64_of, w8_of, decide_eq_true_eq, decide_eq_false_iff_not] at h6
    refine wp_bd (P := fun r => True) ?_ ?_
    · refine wp_bd (s_R_has (σ := σ_46) (slot_0 := slot_0) hσ_46 (by (try dsimp only) <;> first | omega | ((try simp (disch := omega) only [w32_of, w64_of, w8_of]) <;> first | omega | (split <;> omega) | (refine And.intro ?_ ?_ <;> split <;> omega)))) ?_
      rintro x_50 _ g8
      refine wp_if (fun h9 => ?_) (fun h9 => ?_)
      · try simp (disch := omega) only [w32_of, w64_of, w8_of, decide_eq_true_eq, decide_eq_false_iff_not] at h9
        exact wp_some True.intro
      · try simp (disch := omega) only [w32_of, w64_of, w8_of, decide_eq_true_eq, decide_eq_false_iff_not] at h9
        exact wp_some True.intro
    rintro x_54 _ g10
    refine wp_bd (s_R_fails (σ := σ_46) (is_0 := x_54) (which_0 := 2) hσ_46 (by (try dsimp only) <;> first | omega | ((try simp (disch := omega) only [w32_of, w64_of, w8_of]) <;> first | omega | (split <;> omega) | (refine And.intro ?_ ?_ <;> split <;> omega)))) ?_
    rintro ⟨x_57, σ_56⟩ _ y13
    dsimp only at y13 ⊢
    obtain ⟨g11, hσ_56, f12⟩ := y13
    refine wp_if (fun h14 => ?_) (fun h14 => ?_)
    · try simp (disch := omega) only [w32_of, w64_of, w8_of, decide_eq_true_eq, decide_eq_false_iff_not] at h14
      exact wp_some ⟨(by (try dsimp only) <;> first | omega | ((try simp (disch := omega) only [w32_of, w64_of, w8_of]) <;> first | omega | (split <;> omega) | (refine And.intro ?_ ?_ <;> split <;> omega))), hσ_56, (FR_tr (ms := [kR_highX, kR_highY, kR_lowX, kR_lowY, kR_thrown]) (FR_tr (ms := [kR_highX, kR_highY, kR_lowX, kR_lowY, kR_thrown]) (FR_le (ms := [kR_highX, kR_highY, kR_lowX, kR_lowY, kR_thrown]) f2 (by decide)) f4 (by decide) (by decide)) f12 (by decide) (by decide))⟩
    · have k15 := g11 (Bool.eq_false_iff.mpr h14)
      try simp (disch := omega) only [fR_isSlot, fR_in, decide_eq_false_iff_not, decide_eq_true_eq, Decidable.not_not, not_or, w32_of, w64_of] at k15
      try simp (disch := omega) only [w32_of, w64_of, w8_of, decide_eq_true_eq, decide_eq_false_iff_not] at h14
      refine wp_bd (P := fun r => True ∧ II r.2 ∧ FR [kR_highX, kR_highY, kR_lowX, kR_lowY] σ_56 r.2) ?_ ?_
      · have c17 := w32_rng what_0
        refine wp_if (fun h16 => ?_) (fun h16 => ?_)
        · try simp (disch := omega) only [w32_of, w64_of, w8_of, decide_eq_true_eq, decide_eq_false_iff_not, fR_in] at h16
          refine wp_bd (s_R_box (σ := σ_56) (slot_0 := slot_0) hσ_56 (by (try dsimp only) <;> first | omega | ((try simp (disch := omega) only [w32_of, w64_of, w8_of]) <;> first | omega | (split <;> omega) | (refine And.intro ?_ ?_ <;> split <;> omega)))) ?_
          rintro ⟨x_62, σ_61⟩ _ y20
          dsimp only at y20 ⊢
          obtain ⟨g18, hσ_61, f19⟩ := y20
          refine wp_if (fun h21 => ?_) (fun h21 => ?_)
          · try simp (disch := omega) only [w32_of, w64_of, w8_of, decide_eq_true_eq, decide_eq_false_iff_not] at h21
            exact wp_some ⟨True.intro, hσ_61, (FR_le (ms := [kR_highX, kR_highY, kR_lowX, kR_lowY]) f19 (by decide))⟩
          · try simp (disch := omega) only [w32_of, w64_of, w8_of, decide_eq_true_eq, decide_eq_false_iff_not] at h21
            exact wp_some ⟨True.intro, hσ_61, (FR_le (ms := [kR_highX, kR_highY, kR_lowX, kR_lowY]) f19 (by decide))⟩
        · try simp (disch := omega) only [w32_of, w64_of, w8_of, decide_eq_true_eq, decide_eq_false_iff_not, fR_in] at h16
          exact wp_some ⟨True.intro, hσ_56, (FR_refl _ _)⟩
      rintro ⟨x_67, σ_68⟩ _ y24
      dsimp only at y24 ⊢
      obtain ⟨g22, hσ_68, f23⟩ := y24
      refine wp_bd (s_R_fails (σ := σ_68) (is_0 := x_67) (which_0 := 3) hσ_68 (by (try dsimp only) <;> first | omega | ((try simp (disch := omega) only [w32_of, w64_of, w8_of]) <;> first | omega | (split <;> omega) | (refine And.intro ?_ ?_ <;> split <;> omega)))) ?_
      rintro ⟨x_71, σ_70⟩ _ y27
      dsimp only at y27 ⊢
      obtain ⟨g25, hσ_70, f26⟩ := y27
      refine wp_if (fun h28 => ?_) (fun h28 => ?_)
      · try simp (disch := omega) only [w32_of, w64_of, w8_of, decide_eq_true_eq, decide_eq_false_iff_not] at h28
        exact wp_some ⟨(by (try dsimp only) <;> first | omega | ((try simp (disch := omega) only [w32_of, w64_of, w8_of]) <;> first | omega | (split <;> omega) | (refine And.intro ?_ ?_ <;> split <;> omega))), hσ_70, (FR_tr (ms := [kR_highX, kR_highY, kR_lowX, kR_lowY, kR_thrown]) (FR_tr (ms := [kR_highX, kR_highY, kR_lowX, kR_lowY, kR_thrown]) (FR_tr (ms := [kR_highX, kR_highY, kR_lowX, kR_lowY, kR_thrown]) (FR_tr (ms := [kR_highX, kR_highY, kR_lowX, kR_lowY, kR_thrown]) (FR_le (ms := [kR_highX, kR_highY, kR_lowX, kR_lowY, kR_thrown]) f2 (by decide)) f4 (by decide) (by decide)) f12 (by decide) (by decide)) f23 (by decide) (by decide)) f26 (by decide) (by decide))⟩
      · have k29 := g25 (Bool.eq_false_iff.mpr h28)
        try simp (disch := omega) only [fR_isSlot, fR_in, decide_eq_false_iff_not, decide_eq_true_eq, Decidable.not_not, not_or, w32_of, w64_of] at k29
        try simp (disch := omega) only [w32_of, w64_of, w8_of, decide_eq_true_eq, decide_eq_false_iff_not] at h28
        refine wp_bd (P := fun r => ((-4000000000) ≤ r ∧ r ≤ 4000000000)) ?_ ?_
        · have c31 := w32_rng what_0
          refine wp_if (fun h30 => ?_) (fun h30 => ?_)
          · try simp (disch := omega) only [w32_of, w64_of, w8_of, decide_eq_true_eq, decide_eq_false_iff_not] at h30
            have c32 := w32_rng slot_0
            refine wp_rdI (by (try dsimp only) <;> first | omega | ((try simp (disch := omega) only [w32_of, w64_of, w8_of]) <;> first | omega | (split <;> omega) | (refine And.intro ?_ ?_ <;> split <;> omega))) (by (try dsimp only) <;> first | omega | ((try simp (disch := omega) only [w32_of, w64_of, w8_of]) <;> first | omega | (split <;> omega) | (refine And.intro ?_ ?_ <;> split <;> omega))) (fun x_120 e33 => ?_)
            have b34 : (-1000000000) ≤ x_120 ∧ x_120 ≤ 4000000000 := by rw [e33]; exact ii_kR_lowX hσ_70 _
            exact wp_some (by (try dsimp only) <;> first | omega | ((try simp (disch := omega) only [w32_of, w64_of, w8_of]) <;> first | omega | (split <;> omega) | (refine And.intro ?_ ?_ <;> split <;> omega)))
          · try simp (disch := omega) only [w32_of, w64_of, w8_of, decide_eq_true_eq, decide_eq_false_iff_not] at h30
            refine wp_bd (P := fun r => ((-4000000000) ≤ r ∧ r ≤ 4000000000)) ?_ ?_
            · refine wp_if (fun h35 => ?_) (fun h35 => ?_)
              · try simp (disch := omega) only [w32_of, w64_of, w8_of, decide_eq_true_eq, decide_eq_false_iff_not] at h35
                have c36 := w32_rng slot_0
                refine wp_rdI (by (try dsimp only) <;> first | omega | ((try simp (disch := omega) only [w32_of, w64_of, w8_of]) <;> first | omega | (split <;> omega) | (refine And.intro ?_ ?_ <;> split <;> omega))) (by (try dsimp only) <;> first | omega | ((try simp (disch := omega) only [w32_of, w64_of, w8_of]) <;> first | omega | (split <;> omega) | (refine And.intro ?_ ?_ <;> split <;> omega))) (fun x_142 e37 => ?_)
                have b38 : (-1000000000) ≤ x_142 ∧ x_142 ≤ 4000000000 := by rw [e37]; exact ii_kR_lowY hσ_70 _
                exact wp_some (by (try dsimp only) <;> first | omega | ((try simp (disch := omega) only [w32_of, w64_of, w8_of]) <;> first | omega | (split <;> omega) | (refine And.intro ?_ ?_ <;> split <;> omega)))
              · try simp (disch := omega) only [w32_of, w64_of, w8_of, decide_eq_true_eq, decide_eq_false_iff_not] at h35
                refine wp_bd (P := fun r => ((-4000000000) ≤ r ∧ r ≤ 1000000000)) ?_ ?_
                · refine wp_if (fun h39 => ?_) (fun h39 => ?_)
                  · try simp (disch := omega) only [w32_of, w64_of, w8_of, decide_eq_true_eq, decide_eq_false_iff_not] at h39
                    have c40 := w32_rng slot_0
                    refine wp_rdI (by (try dsimp only) <;> first | omega | ((try simp (disch := omega) only [w32_of, w64_of, w8_of]) <;> first | omega | (split <;> omega) | (refine And.intro ?_ ?_ <;> split <;> omega))) (by (try dsimp only) <;> first | omega | ((try simp (disch := omega) only [w32_of, w64_of, w8_of]) <;> first | omega | (split <;> omega) | (refine And.intro ?_ ?_ <;> split <;> omega))) (fun x_150 e41 => ?_)
                    have b42 : (-4000000000) ≤ x_150 ∧ x_150 ≤ 1000000000 := by rw [e41]; exact ii_kR_highX hσ_70 _
                    exact wp_some (by (try dsimp only) <;> first | omega | ((try simp (disch := omega) only [w32_of, w64_of, w8_of]) <;> first | omega | (split <;> omega) | (refine And.intro ?_ ?_ <;> split <;> omega)))
                  · try simp (disch := omega) only [w32_of, w64_of, w8_of, decide_eq_true_eq, decide_eq_false_iff_not] at h39
                    have c43 := w32_rng slot_0
                    refine wp_rdI (by (try dsimp only) <;> first | omega | ((try simp (disch := omega) only [w32_of, w64_of, w8_of]) <;> first | omega | (split <;> omega) | (refine And.intro ?_ ?_ <;> split <;> omega))) (by (try dsimp only) <;> first | omega | ((try simp (disch := omega) only [w32_of, w64_of, w8_of]) <;> first | omega | (split <;> omega) | (refine And.intro ?_ ?_ <;> split <;> omega))) (fun x_153 e44 => ?_)
                    have b45 : (-4000000000) ≤ x_153 ∧ x_153 ≤ 1000000000 := by rw [e44]; exact ii_kR_highY hσ_70 _
                    exact wp_some (by (try dsimp only) <;> first | omega | ((try simp (disch := omega) only [w32_of, w64_of, w8_of]) <;> first | omega | (split <;> omega) | (refine And.intro ?_ ?_ <;> split <;> omega)))
                rintro x_156 _ g46
                exact wp_some (by (try dsimp only) <;> first | omega | ((try simp (disch := omega) only [w32_of, w64_of, w8_of]) <;> first | omega | (split <;> omega) | (refine And.intro ?_ ?_ <;> split <;> omega)))
            rintro x_162 _ g47
            exact wp_some (by (try dsimp only) <;> first | omega | ((try simp (disch := omega) only [w32_of, w64_of, w8_of]) <;> first | omega | (split <;> omega) | (refine And.intro ?_ ?_ <;> split <;> omega)))
        rintro x_168 _ g48
        exact wp_some ⟨(by (try dsimp only) <;> first | omega | ((try simp (disch := omega) only [w32_of, w64_of, w8_of]) <;> first | omega | (split <;> omega) | (refine And.intro ?_ ?_ <;> split <;> omega))), hσ_70, (FR_tr (ms := [kR_highX, kR_highY, kR_lowX, kR_lowY, kR_thrown]) (FR_tr (ms := [kR_highX, kR_highY, kR_lowX, kR_lowY, kR_thrown]) (FR_tr (ms := [kR_highX, kR_highY, kR_lowX, kR_lowY, kR_thrown]) (FR_tr (ms := [kR_highX, kR_highY, kR_lowX, kR_lowY, kR_thrown]) (FR_le (ms := [kR_highX, kR_highY, kR_lowX, kR_lowY, kR_thrown]) f2 (by decide)) f4 (by decide) (by decide)) f12 (by decide) (by decide)) f23 (by decide) (by decide)) f26 (by decide) (by decide))⟩
theorem s_R_found {σ : SG} {k_0 : Int} (hσ : II σ) (qk_0 : (-2147483648) ≤ k_0 ∧ k_0 ≤ 2147483647) : wp_ (fR_found σ k_0) (fun r => (0 ≤ r.1 ∧ r.1 ≤ 31) ∧ II r.2 ∧ FR [kR_thrown] σ r.2) := by
  unfold fR_found
  refine wp_wfI hσ b_kR_thrown (by (try dsimp only) <;> first | omega | ((try simp (disch := omega) only [w32_of, w64_of, w8_of]) <;> first | omega | (split <;> omega) | (refine And.intro ?_ ?_ <;> split <;> omega))) (fun σ_1 hσ_1 e1 => ?_)
  have f2 := FR_sg e1
  have c3 := w32_rng k_0
  have c4 := ii_kR_foundMany hσ_1 0
  have c5 := FR_at f2 (c := kR_foundMany) (by decide) 0
  have c6 := ii_kR_foundMany hσ 0
  have c7 := w32_rng ((σ_1 kR_foundMany 0) - 1)
  refine wp_bd (s_R_fails (σ := σ_1) (is_0 := (decide (¬ ((fR_in (w32 k_0) 0 (w32 ((σ_1 kR_foundMany 0) - 1))) = true)))) (which_0 := 1) hσ_1 (by (try dsimp only) <;> first | omega | ((try simp (disch := omega) only [w32_of, w64_of, w8_of]) <;> first | omega | (split <;> omega) | (refine And.intro ?_ ?_ <;> split <;> omega)))) ?_
  rintro ⟨x_5, σ_4⟩ _ y10
  dsimp only at y10 ⊢
  obtain ⟨g8, hσ_4, f9⟩ := y10
  refine wp_if (fun h11 => ?_) (fun h11 => ?_)
  · try simp (disch := omega) only [w32_of, w64_of, w8_of, decide_eq_true_eq, decide_eq_false_iff_not] at h11
    exact wp_some ⟨(by (try dsimp only) <;> first | omega | ((try simp (disch := omega) only [w32_of, w64_of, w8_of]) <;> first | omega | (split <;> omega) | (refine And.intro ?_ ?_ <;> split <;> omega))), hσ_4, (FR_tr (ms := [kR_thrown]) (FR_le (ms := [kR_thrown]) f2 (by decide)) f9 (by decide) (by decide))⟩
  · have k12 := g8 (Bool.eq_false_iff.mpr h11)
    try simp (disch := omega) only [fR_isSlot, fR_in, decide_eq_false_iff_not, decide_eq_true_eq, Decidable.not_not, not_or, w32_of, w64_of] at k12
    try simp (disch := omega) only [w32_of, w64_of, w8_of, decide_eq_true_eq, decide_eq_false_iff_not] at h11
    refine wp_rdI (by (try dsimp only) <;> first | omega | ((try simp (disch := omega) only [w32_of, w64_of, w8_of]) <;> first | omega | (split <;> omega) | (refine And.intro ?_ ?_ <;> split <;> omega))) (by (try dsimp only) <;> first | omega | ((try simp (disch := omega) only [w32_of, w64_of, w8_of]) <;> first | omega | (split <;> omega) | (refine And.intro ?_ ?_ <;> split <;> omega))) (fun x_7 e13 => ?_)
    have b14 : 0 ≤ x_7 ∧ x_7 ≤ 31 := by rw [e13]; exact ii_kR_foundSlot hσ_4 _
    exact wp_some ⟨(by (try dsimp only) <;> first | omega | ((try simp (disch := omega) only [w32_of, w64_of, w8_of]) <;> first | omega | (split <;> omega) | (refine And.intro ?_ ?_ <;> split <;> omega))), hσ_4, (FR_tr (ms := [kR_thrown]) (FR_le (ms := [kR_thrown]) f2 (by decide)) f9 (by decide) (by decide))⟩
theorem s_R_limb {σ : SG} {r_0 : Int} {k_0 : Int} (hσ : II σ) (qr_0 : 3 ≤ r_0 ∧ r_0 ≤ 19) (qk_0 : 0 ≤ k_0 ∧ k_0 ≤ 300) : wp_ (fR_limb σ r_0 k_0) (fun r => (0 ≤ r ∧ r ≤ 4294967295)) := by
  unfold fR_limb
  refine wp_bd (P := fun r => (0 ≤ r ∧ r ≤ 4294967295)) ?_ ?_
  · have c1 := w32_rng r_0
    refine wp_rdI (by (try dsimp only) <;> first | omega | ((try simp (disch := omega) only [w32_of, w64_of, w8_of]) <;> first | omega | (split <;> omega) | (refine And.intro ?_ ?_ <;> split <;> omega))) (by (try dsimp only) <;> first | omega | ((try simp (disch := omega) only [w32_of, w64_of, w8_of]) <;> first | omega | (split <;> omega) | (refine And.intro ?_ ?_ <;> split <;> omega))) (fun x_1 e2 => ?_)
    have b3 : 0 ≤ x_1 ∧ x_1 ≤ 300 := by rw [e2]; exact ii_kR_limbs hσ _
    have c5 := w32_rng k_0
    have c6 := w32_rng x_1
    refine wp_if (fun h4 => ?_) (fun h4 => ?_)
    · try simp (disch := omega) only [w32_of, w64_of, w8_of, decide_eq_true_eq, decide_eq_false_iff_not] at h4
      have c7 := w32_rng ((300 * r_0) + k_0)
      refine wp_rdI (by (try dsimp only) <;> first | omega | ((try simp (disch := omega) only [w32_of, w64_of, w8_of]) <;> first | omega | (split <;> omega) | (refine And.intro ?_ ?_ <;> split <;> omega))) (by (try dsimp only) <;> first | omega | ((try simp (disch := omega) only [w32_of, w64_of, w8_of]) <;> first | omega | (split <;> omega) | (refine And.intro ?_ ?_ <;> split <;> omega))) (fun x_4 e8 => ?_)
      have b9 : 0 ≤ x_4 ∧ x_4 ≤ 4294967295 := by rw [e8]; exact ii_kR_w hσ _
      exact wp_some (by (try dsimp only) <;> first | omega | ((try simp (disch := omega) only [w32_of, w64_of, w8_of]) <;> first | omega | (split <;> omega) | (refine And.intro ?_ ?_ <;> split <;> omega)))
    · try simp (disch := omega) only [w32_of, w64_of, w8_of, decide_eq_true_eq, decide_eq_false_iff_not] at h4
      exact wp_some (by (try dsimp only) <;> first | omega | ((try simp (disch := omega) only [w32_of, w64_of, w8_of]) <;> first | omega | (split <;> omega) | (refine And.intro ?_ ?_ <;> split <;> omega)))
  rintro x_8 _ g10
  exact wp_some (by (try dsimp only) <;> first | omega | ((try simp (disch := omega) only [w32_of, w64_of, w8_of]) <;> first | omega | (split <;> omega) | (refine And.intro ?_ ?_ <;> split <;> omega)))
theorem s_R_sizes {σ : SG} {a_0 : Int} {b_0 : Int} (hσ : II σ) (qa_0 : 3 ≤ a_0 ∧ a_0 ≤ 18) (qb_0 : 5 ≤ b_0 ∧ b_0 ≤ 19) : wp_ (fR_sizes σ a_0 b_0) (fun r => ((-1) ≤ r ∧ r ≤ 1)) := by
  unfold fR_sizes
  have c1 := w32_rng a_0
  refine wp_rdI (by (try dsimp only) <;> first | omega | ((try simp (disch := omega) only [w32_of, w64_of, w8_of]) <;> first | omega | (split <;> omega) | (refine And.intro ?_ ?_ <;> split <;> omega))) (by (try dsimp only) <;> first | omega | ((try simp (disch := omega) only [w32_of, w64_of, w8_of]) <;> first | omega | (split <;> omega) | (refine And.intro ?_ ?_ <;> split <;> omega))) (fun x_1 e2 => ?_)
  have b3 : 0 ≤ x_1 ∧ x_1 ≤ 300 := by rw [e2]; exact ii_kR_limbs hσ _
  have c4 := w32_rng b_0
  refine wp_rdI (by (try dsimp only) <;> first | omega | ((try simp (disch := omega) only [w32_of, w64_of, w8_of]) <;> first | omega | (split <;> omega) | (refine And.intro ?_ ?_ <;> split <;> omega))) (by (try dsimp only) <;> first | omega | ((try simp (disch := omega) only [w32_of, w64_of, w8_of]) <;> first | omega | (split <;> omega) | (refine And.intro ?_ ?_ <;> split <;> omega))) (fun x_3 e5 => ?_)
  have b6 : 0 ≤ x_3 ∧ x_3 ≤ 300 := by rw [e5]; exact ii_kR_limbs hσ _
  have c8 := w32_rng x_1
  have c9 := w32_rng x_3
  refine wp_if (fun h7 => ?_) (fun h7 => ?_)
  · try simp (disch := omega) only [w32_of, w64_of, w8_of, decide_eq_true_eq, decide_eq_false_iff_not] at h7
    refine wp_bd (P := fun r => ((-1) ≤ r ∧ r ≤ 1)) ?_ ?_
    · refine wp_rdI (by (try dsimp only) <;> first | omega | ((try simp (disch := omega) only [w32_of, w64_of, w8_of]) <;> first | omega | (split <;> omega) | (refine And.intro ?_ ?_ <;> split <;> omega))) (by (try dsimp only) <;> first | omega | ((try simp (disch := omega) only [w32_of, w64_of, w8_of]) <;> first | omega | (split <;> omega) | (refine And.intro ?_ ?_ <;> split <;> omega))) (fun x_6 e10 => ?_)
      have b11 : 0 ≤ x_6 ∧ x_6 ≤ 300 := by rw [e10]; exact ii_kR_limbs hσ _
      refine wp_rdI (by (try dsimp only) <;> first | omega | ((try simp (disch := omega) only [w32_of, w64_of, w8_of]) <;> first | omega | (split <;> omega) | (refine And.intro ?_ ?_ <;> split <;> omega))) (by (try dsimp only) <;> first | omega | ((try simp (disch := omega) only [w32_of, w64_of, w8_of]) <;> first | omega | (split <;> omega) | (refine And.intro ?_ ?_ <;> split <;> omega))) (fun x_8 e12 => ?_)
      have b13 : 0 ≤ x_8 ∧ x_8 ≤ 300 := by rw [e12]; exact ii_kR_limbs hσ _
      have c15 := w32_rng x_6
      have c16 := w32_rng x_8
      refine wp_if (fun h14 => ?_) (fun h14 => ?_)
      · try simp (disch := omega) only [w32_of, w64_of, w8_of, decide_eq_true_eq, decide_eq_false_iff_not] at h14
        exact wp_some (by (try dsimp only) <;> first | omega | ((try simp (disch := omega) only [w32_of, w64_of, w8_of]) <;> first | omega | (split <;> omega) | (refine And.intro ?_ ?_ <;> split <;> omega)))
      · try simp (disch := omega) only [w32_of, w64_of, w8_of, decide_eq_true_eq, decide_eq_false_iff_not] at h14
        exact wp_some (by (try dsimp only) <;> first | omega | ((try simp (disch := omega) only [w32_of, w64_of, w8_of]) <;> first | omega | (split <;> omega) | (refine And.intro ?_ ?_ <;> split <;> omega)))
    rintro x_13 _ g17
    exact wp_some (by (try dsimp only) <;> first | omega | ((try simp (disch := omega) only [w32_of, w64_of, w8_of]) <;> first | omega | (split <;> omega) | (refine And.intro ?_ ?_ <;> split <;> omega)))
  · try simp (disch := omega) only [w32_of, w64_of, w8_of, decide_eq_true_eq, decide_eq_false_iff_not] at h7
    refine wp_rdI (by (try dsimp only) <;> first | omega | ((try simp (disch := omega) only [w32_of, w64_of, w8_of]) <;> first | omega | (split <;> omega) | (refine And.intro ?_ ?_ <;> split <;> omega))) (by (try dsimp only) <;> first | omega | ((try simp (disch := omega) only [w32_of, w64_of, w8_of]) <;> first | omega | (split <;> omega) | (refine And.intro ?_ ?_ <;> split <;> omega))) (fun x_18 e18 => ?_)
    have b19 : 0 ≤ x_18 ∧ x_18 ≤ 300 := by rw [e18]; exact ii_kR_limbs hσ _
    refine wp_bd (P := fun r => ((-1) ≤ r ∧ r ≤ 299)) ?_ ?_
    · refine wp_whl (fun s => ((-1) ≤ s ∧ s ≤ 299)) (fun s => (s - (-2)).toNat) (by (try dsimp only) <;> first | omega | ((try simp (disch := omega) only [w32_of, w64_of, w8_of]) <;> first | omega | (split <;> omega) | (refine And.intro ?_ ?_ <;> split <;> omega))) ?_
      rintro k_20 g20
      have c22 := w32_rng k_20
      refine wp_if (fun h21 => ?_) (fun h21 => ?_)
      · try simp (disch := omega) only [w32_of, w64_of, w8_of, decide_eq_true_eq, decide_eq_false_iff_not] at h21
        have c23 := w32_rng ((300 * a_0) + k_20)
        refine wp_rdI (by (try dsimp only) <;> first | omega | ((try simp (disch := omega) only [w32_of, w64_of, w8_of]) <;> first | omega | (split <;> omega) | (refine And.intro ?_ ?_ <;> split <;> omega))) (by (try dsimp only) <;> first | omega | ((try simp (disch := omega) only [w32_of, w64_of, w8_of]) <;> first | omega | (split <;> omega) | (refine And.intro ?_ ?_ <;> split <;> omega))) (fun x_39 e24 => ?_)
        have b25 : 0 ≤ x_39 ∧ x_39 ≤ 4294967295 := by rw [e24]; exact ii_kR_w hσ _
        have c26 := w32_rng ((300 * b_0) + k_20)
        refine wp_rdI (by (try dsimp only) <;> first | omega | ((try simp (disch := omega) only [w32_of, w64_of, w8_of]) <;> first | omega | (split <;> omega) | (refine And.intro ?_ ?_ <;> split <;> omega))) (by (try dsimp only) <;> first | omega | ((try simp (disch := omega) only [w32_of, w64_of, w8_of]) <;> first | omega | (split <;> omega) | (refine And.intro ?_ ?_ <;> split <;> omega))) (fun x_41 e27 => ?_)
        have b28 : 0 ≤ x_41 ∧ x_41 ≤ 4294967295 := by rw [e27]; exact ii_kR_w hσ _
        have c30 := w64_rng x_39
        have c31 := w64_rng x_41
        refine wp_if (fun h29 => ?_) (fun h29 => ?_)
        · try simp (disch := omega) only [w32_of, w64_of, w8_of, decide_eq_true_eq, decide_eq_false_iff_not] at h29
          exact wp_some ⟨fun _ e => by cases e; exact ⟨(by (try dsimp only) <;> first | omega | ((try simp (disch := omega) only [w32_of, w64_of, w8_of]) <;> first | omega | (split <;> omega) | (refine And.intro ?_ ?_ <;> split <;> omega))), by (try dsimp only) <;> first | omega | ((try simp (disch := omega) only [w32_of, w64_of, w8_of]) <;> first | omega | (split <;> omega) | (refine And.intro ?_ ?_ <;> split <;> omega))⟩, fun _ e => (by cases e)⟩
        · try simp (disch := omega) only [w32_of, w64_of, w8_of, decide_eq_true_eq, decide_eq_false_iff_not] at h29
          exact wp_some ⟨fun _ e => (by cases e), fun _ e => by cases e; exact (by (try dsimp only) <;> first | omega | ((try simp (disch := omega) only [w32_of, w64_of, w8_of]) <;> first | omega | (split <;> omega) | (refine And.intro ?_ ?_ <;> split <;> omega)))⟩
      · try simp (disch := omega) only [w32_of, w64_of, w8_of, decide_eq_true_eq, decide_eq_false_iff_not] at h21
        exact wp_some ⟨fun _ e => (by cases e), fun _ e => by cases e; exact (by (try dsimp only) <;> first | omega | ((try simp (disch := omega) only [w32_of, w64_of, w8_of]) <;> first | omega | (split <;> omega) | (refine And.intro ?_ ?_ <;> split <;> omega)))⟩
    rintro k_47 _ g32
    refine wp_bd (P := fun r => ((-1) ≤ r ∧ r ≤ 1)) ?_ ?_
    · have c34 := w32_rng k_47
      refine wp_if (fun h33 => ?_) (fun h33 => ?_)
      · try simp (disch := omega) only [w32_of, w64_of, w8_of, decide_eq_true_eq, decide_eq_false_iff_not] at h33
        exact wp_some (by (try dsimp only) <;> first | omega | ((try simp (disch := omega) only [w32_of, w64_of, w8_of]) <;> first | omega | (split <;> omega) | (refine And.intro ?_ ?_ <;> split <;> omega)))
      · try simp (disch := omega) only [w32_of, w64_of, w8_of, decide_eq_true_eq, decide_eq_false_iff_not] at h33
        refine wp_bd (P := fun r => ((-1) ≤ r ∧ r ≤ 1)) ?_ ?_
        · have c35 := w32_rng ((300 * a_0) + k_47)
          refine wp_rdI (by (try dsimp only) <;> first | omega | ((try simp (disch := omega) only [w32_of, w64_of, w8_of]) <;> first | omega | (split <;> omega) | (refine And.intro ?_ ?_ <;> split <;> omega))) (by (try dsimp only) <;> first | omega | ((try simp (disch := omega) only [w32_of, w64_of, w8_of]) <;> first | omega | (split <;> omega) | (refine And.intro ?_ ?_ <;> split <;> omega))) (fun x_62 e36 => ?_)
          have b37 : 0 ≤ x_62 ∧ x_62 ≤ 4294967295 := by rw [e36]; exact ii_kR_w hσ _
          have c38 := w32_rng ((300 * b_0) + k_47)
          refine wp_rdI (by (try dsimp only) <;> first | omega | ((try simp (disch := omega) only [w32_of, w64_of, w8_of]) <;> first | omega | (split <;> omega) | (refine And.intro ?_ ?_ <;> split <;> omega))) (by (try dsimp only) <;> first | omega | ((try simp (disch := omega) only [w32_of, w64_of, w8_of]) <;> first | omega | (split <;> omega) | (refine And.intro ?_ ?_ <;> split <;> omega))) (fun x_64 e39 => ?_)
          have b40 : 0 ≤ x_64 ∧ x_64 ≤ 4294967295 := by rw [e39]; exact ii_kR_w hσ _
          have c42 := w64_rng x_62
          have c43 := w64_rng x_64
          refine wp_if (fun h41 => ?_) (fun h41 => ?_)
          · try simp (disch := omega) only [w32_of, w64_of, w8_of, decide_eq_true_eq, decide_eq_false_iff_not] at h41
            exact wp_some (by (try dsimp only) <;> first | omega | ((try simp (disch := omega) only [w32_of, w64_of, w8_of]) <;> first | omega | (split <;> omega) | (refine And.intro ?_ ?_ <;> split <;> omega)))
          · try simp (disch := omega) only [w32_of, w64_of, w8_of, decide_eq_true_eq, decide_eq_false_iff_not] at h41
            exact wp_some (by (try dsimp only) <;> first | omega | ((try simp (disch := omega) only [w32_of, w64_of, w8_of]) <;> first | omega | (split <;> omega) | (refine And.intro ?_ ?_ <;> split <;> omega)))
        rintro x_69 _ g44
        exact wp_some (by (try dsimp only) <;> first | omega | ((try simp (disch := omega) only [w32_of, w64_of, w8_of]) <;> first | omega | (split <;> omega) | (refine And.intro ?_ ?_ <;> split <;> omega)))
    rintro x_75 _ g45
    exact wp_some (by (try dsimp only) <;> first | omega | ((try simp (disch := omega) only [w32_of, w64_of, w8_of]) <;> first | omega | (split <;> omega) | (refine And.intro ?_ ?_ <;> split <;> omega)))
theorem s_R_lessSizes {σ : SG} {to_0 : Int} {a_0 : Int} {b_0 : Int} (hσ : II σ) (qto_0 : 0 ≤ to_0 ∧ to_0 ≤ 15) (qa_0 : 3 ≤ a_0 ∧ a_0 ≤ 19) (qb_0 : 3 ≤ b_0 ∧ b_0 ≤ 19) : wp_ (fR_lessSizes σ to_0 a_0 b_0) (fun r => II r ∧ FR [kR_limbs, kR_w] σ r) := by
  unfold fR_lessSizes
  have c1 := w32_rng a_0
  refine wp_rdI (by (try dsimp only) <;> first | omega | ((try simp (disch := omega) only [w32_of, w64_of, w8_of]) <;> first | omega | (split <;> omega) | (refine And.intro ?_ ?_ <;> split <;> omega))) (by (try dsimp only) <;> first | omega | ((try simp (disch := omega) only [w32_of, w64_of, w8_of]) <;> first | omega | (split <;> omega) | (refine And.intro ?_ ?_ <;> split <;> omega))) (fun x_1 e2 => ?_)
  have b3 : 0 ≤ x_1 ∧ x_1 ≤ 300 := by rw [e2]; exact ii_kR_limbs hσ _
  refine wp_bd (P := fun r => (0 ≤ r.1 ∧ r.1 ≤ 1) ∧ (0 ≤ r.2.1 ∧ r.2.1 ≤ 300) ∧ II r.2.2 ∧ FR [kR_w] σ r.2.2) ?_ ?_
  · refine wp_whl (fun s => (0 ≤ s.1 ∧ s.1 ≤ 1) ∧ (0 ≤ s.2.1 ∧ s.2.1 ≤ 300) ∧ II s.2.2 ∧ FR [kR_w] σ s.2.2) (fun s => (301 - s.2.1).toNat) ⟨(by (try dsimp only) <;> first | omega | ((try simp (disch := omega) only [w32_of, w64_of, w8_of]) <;> first | omega | (split <;> omega) | (refine And.intro ?_ ?_ <;> split <;> omega))), (by (try dsimp only) <;> first | omega | ((try simp (disch := omega) only [w32_of, w64_of, w8_of]) <;> first | omega | (split <;> omega) | (refine And.intro ?_ ?_ <;> split <;> omega))), hσ, (FR_refl _ _)⟩ ?_
    rintro ⟨carry_3, k_4, σ_5⟩ y7
    dsimp only at y7 ⊢
    obtain ⟨g4, g5, hσ_5, f6⟩ := y7
    have c9 := w32_rng k_4
    have c10 := w32_rng x_1
    refine wp_if (fun h8 => ?_) (fun h8 => ?_)
    · try simp (disch := omega) only [w32_of, w64_of, w8_of, decide_eq_true_eq, decide_eq_false_iff_not] at h8
      refine wp_bd (s_R_limb (σ := σ_5) (r_0 := a_0) (k_0 := k_4) hσ_5 (by (try dsimp only) <;> first | omega | ((try simp (disch := omega) only [w32_of, w64_of, w8_of]) <;> first | omega | (split <;> omega) | (refine And.intro ?_ ?_ <;> split <;> omega))) (by (try dsimp only) <;> first | omega | ((try simp (disch := omega) only [w32_of, w64_of, w8_of]) <;> first | omega | (split <;> omega) | (refine And.intro ?_ ?_ <;> split <;> omega)))) ?_
      rintro x_15 _ g11
      refine wp_bd (s_R_limb (σ := σ_5) (r_0 := b_0) (k_0 := k_4) hσ_5 (by (try dsimp only) <;> first | omega | ((try simp (disch := omega) only [w32_of, w64_of, w8_of]) <;> first | omega | (split <;> omega) | (refine And.intro ?_ ?_ <;> split <;> omega))) (by (try dsimp only) <;> first | omega | ((try simp (disch := omega) only [w32_of, w64_of, w8_of]) <;> first | omega | (split <;> omega) | (refine And.intro ?_ ?_ <;> split <;> omega)))) ?_
      rintro x_17 _ g12
      have c13 := q_lan_bd ((x_15 - x_17) - carry_3) (m := 4294967295) (by decide) (by decide)
      try simp (disch := omega) only [w32_of, w64_of, w8_of] at c13
      have c14 := w32_rng ((300 * to_0) + k_4)
      refine wp_waI hσ_5 b_kR_w (by (try dsimp only) <;> first | omega | ((try simp (disch := omega) only [w32_of, w64_of, w8_of]) <;> first | omega | (split <;> omega) | (refine And.intro ?_ ?_ <;> split <;> omega))) (by (try dsimp only) <;> first | omega | ((try simp (disch := omega) only [w32_of, w64_of, w8_of]) <;> first | omega | (split <;> omega) | (refine And.intro ?_ ?_ <;> split <;> omega))) (by (try dsimp only) <;> first | omega | ((try simp (disch := omega) only [w32_of, w64_of, w8_of]) <;> first | omega | (split <;> omega) | (refine And.intro ?_ ?_ <;> split <;> omega))) (fun σ_19 hσ_19 e15 => ?_)
      have f16 := FR_sg e15
      have c17 := w64_rng ((x_15 - x_17) - carry_3)
      exact wp_some ⟨fun _ e => by cases e; exact ⟨⟨(by (try dsimp only) <;> first | omega | ((try simp (disch := omega) only [w32_of, w64_of, w8_of]) <;> first | omega | (split <;> omega) | (refine And.intro ?_ ?_ <;> split <;> omega))), (by (try dsimp only) <;> first | omega | ((try simp (disch := omega) only [w32_of, w64_of, w8_of]) <;> first | omega | (split <;> omega) | (refine And.intro ?_ ?_ <;> split <;> omega))), hσ_19, (FR_tr (ms := [kR_w]) (FR_le (ms := [kR_w]) f6 (by decide)) f16 (by decide) (by decide))⟩, by (try dsimp only) <;> first | omega | ((try simp (disch := omega) only [w32_of, w64_of, w8_of]) <;> first | omega | (split <;> omega) | (refine And.intro ?_ ?_ <;> split <;> omega))⟩, fun _ e => (by cases e)⟩
    · try simp (disch := omega) only [w32_of, w64_of, w8_of, decide_eq_true_eq, decide_eq_false_iff_not] at h8
      exact wp_some ⟨fun _ e => (by cases e), fun _ e => by cases e; exact ⟨(by (try dsimp only) <;> first | omega | ((try simp (disch := omega) only [w32_of, w64_of, w8_of]) <;> first | omega | (split <;> omega) | (refine And.intro ?_ ?_ <;> split <;> omega))), (by (try dsimp only) <;> first | omega | ((try simp (disch := omega) only [w32_of, w64_of, w8_of]) <;> first | omega | (split <;> omega) | (refine And.intro ?_ ?_ <;> split <;> omega))), hσ_5, (FR_le (ms := [kR_w]) f6 (by decide))⟩⟩
  rintro ⟨carry_24, k_25, σ_26⟩ _ y21
  dsimp only at y21 ⊢
  obtain ⟨g18, g19, hσ_26, f20⟩ := y21
  have c22 := w32_rng to_0
  refine wp_waI hσ_26 b_kR_limbs (by (try dsimp only) <;> first | omega | ((try simp (disch := omega) only [w32_of, w64_of, w8_of]) <;> first | omega | (split <;> omega) | (refine And.intro ?_ ?_ <;> split <;> omega))) (by (try dsimp only) <;> first | omega | ((try simp (disch := omega) only [w32_of, w64_of, w8_of]) <;> first | omega | (split <;> omega) | (refine And.intro ?_ ?_ <;> split <;> omega))) (by (try dsimp only) <;> first | omega | ((try simp (disch := omega) only [w32_of, w64_of, w8_of]) <;> first | omega | (split <;> omega) | (refine And.intro ?_ ?_ <;> split <;> omega))) (fun σ_27 hσ_27 e23 => ?_)
  have f24 := FR_sg e23
  exact wp_some ⟨hσ_27, (FR_tr (ms := [kR_limbs, kR_w]) (FR_le (ms := [kR_limbs, kR_w]) f20 (by decide)) f24 (by decide) (by decide))⟩
theorem s_R_isAlike {σ : SG} {i_0 : Int} (hσ : II σ) (qi_0 : 0 ≤ i_0 ∧ i_0 ≤ 4199) : wp_ (fR_isAlike σ i_0) (fun r => True) := by
  unfold fR_isAlike
  refine wp_bd (P := fun r => True) ?_ ?_
  · have c1 := w32_rng i_0
    refine wp_rdI (by (try dsimp only) <;> first | omega | ((try simp (disch := omega) only [w32_of, w64_of, w8_of]) <;> first | omega | (split <;> omega) | (refine And.intro ?_ ?_ <;> split <;> omega))) (by (try dsimp only) <;> first | omega | ((try simp (disch := omega) only [w32_of, w64_of, w8_of]) <;> first | omega | (split <;> omega) | (refine And.intro ?_ ?_ <;> split <;> omega))) (fun x_1 e2 => ?_)
    have b3 : (-1000000000) ≤ x_1 ∧ x_1 ≤ 1000000000 := by rw [e2]; exact ii_kR_sx hσ _
    refine wp_rdI (by (try dsimp only) <;> first | omega | ((try simp (disch := omega) only [w32_of, w64_of, w8_of]) <;> first | omega | (split <;> omega) | (refine And.intro ?_ ?_ <;> split <;> omega))) (by (try dsimp only) <;> first | omega | ((try simp (disch := omega) only [w32_of, w64_of, w8_of]) <;> first | omega | (split <;> omega) | (refine And.intro ?_ ?_ <;> split <;> omega))) (fun x_3 e4 => ?_)
    have b5 : (-1000000000) ≤ x_3 ∧ x_3 ≤ 1000000000 := by rw [e4]; exact ii_kR_ex hσ _
    have c7 := w64_rng x_1
    have c8 := w64_rng x_3
    refine wp_if (fun h6 => ?_) (fun h6 => ?_)
    · try simp (disch := omega) only [w32_of, w64_of, w8_of, decide_eq_true_eq, decide_eq_false_iff_not] at h6
      refine wp_rdI (by (try dsimp only) <;> first | omega | ((try simp (disch := omega) only [w32_of, w64_of, w8_of]) <;> first | omega | (split <;> omega) | (refine And.intro ?_ ?_ <;> split <;> omega))) (by (try dsimp only) <;> first | omega | ((try simp (disch := omega) only [w32_of, w64_of, w8_of]) <;> first | omega | (split <;> omega) | (refine And.intro ?_ ?_ <;> split <;> omega))) (fun x_6 e9 => ?_)
      have b10 : (-1000000000) ≤ x_6 ∧ x_6 ≤ 1000000000 := by rw [e9]; exact ii_kR_sy hσ _
      refine wp_rdI (by (try dsimp only) <;> first | omega | ((try simp (disch := omega) only [w32_of, w64_of, w8_of]) <;> first | omega | (split <;> omega) | (refine And.intro ?_ ?_ <;> split <;> omega))) (by (try dsimp only) <;> first | omega | ((try simp (disch := omega) only [w32_of, w64_of, w8_of]) <;> first | omega | (split <;> omega) | (refine And.intro ?_ ?_ <;> split <;> omega))) (fun x_8 e11 => ?_)
      have b12 : (-1000000000) ≤ x_8 ∧ x_8 ≤ 1000000000 := by rw [e11]; exact ii_kR_ey hσ _
      have c14 := w64_rng x_6
      have c15 := w64_rng x_8
      refine wp_if (fun h13 => ?_) (fun h13 => ?_)
      · try simp (disch := omega) only [w32_of, w64_of, w8_of, decide_eq_true_eq, decide_eq_false_iff_not] at h13
        exact wp_some True.intro
      · try simp (disch := omega) only [w32_of, w64_of, w8_of, decide_eq_true_eq, decide_eq_false_iff_not] at h13
        exact wp_some True.intro
    · try simp (disch := omega) only [w32_of, w64_of, w8_of, decide_eq_true_eq, decide_eq_false_iff_not] at h6
      exact wp_some True.intro
  rintro x_14 _ g16
  exact wp_some True.intro
theorem s_R_meetsAt {σ : SG} {x_0 : Int} {y_0 : Int} (hσ : II σ) (qx_0 : (-1000000000) ≤ x_0 ∧ x_0 ≤ 1000000000) (qy_0 : (-1000000000) ≤ y_0 ∧ y_0 ≤ 1000000000) : wp_ (fR_meetsAt σ x_0 y_0) (fun r => II r ∧ FR [kR_isInner, kR_meetX, kR_meetY] σ r) := by
  unfold fR_meetsAt
  have c1 := bz_bd false
  refine wp_wfI hσ b_kR_isInner (by (try dsimp only) <;> first | omega | ((try simp (disch := omega) only [w32_of, w64_of, w8_of]) <;> first | omega | (split <;> omega) | (refine And.intro ?_ ?_ <;> split <;> omega))) (fun σ_1 hσ_1 e2 => ?_)
  have f3 := FR_sg e2
  refine wp_wfI hσ_1 b_kR_meetX (by (try dsimp only) <;> first | omega | ((try simp (disch := omega) only [w32_of, w64_of, w8_of]) <;> first | omega | (split <;> omega) | (refine And.intro ?_ ?_ <;> split <;> omega))) (fun σ_2 hσ_2 e4 => ?_)
  have f5 := FR_sg e4
  refine wp_wfI hσ_2 b_kR_meetY (by (try dsimp only) <;> first | omega | ((try simp (disch := omega) only [w32_of, w64_of, w8_of]) <;> first | omega | (split <;> omega) | (refine And.intro ?_ ?_ <;> split <;> omega))) (fun σ_3 hσ_3 e6 => ?_)
  have f7 := FR_sg e6
  exact wp_some ⟨hσ_3, (FR_tr (ms := [kR_isInner, kR_meetX, kR_meetY]) (FR_tr (ms := [kR_isInner, kR_meetX, kR_meetY]) (FR_le (ms := [kR_isInner, kR_meetX, kR_meetY]) f3 (by decide)) f5 (by decide) (by decide)) f7 (by decide) (by decide))⟩
theorem s_R_along {σ : SG} {i_0 : Int} {j_0 : Int} (hσ : II σ) (qi_0 : 0 ≤ i_0 ∧ i_0 ≤ 4199) (qj_0 : 0 ≤ j_0 ∧ j_0 ≤ 4199) : wp_ (fR_along σ i_0 j_0) (fun r => (0 ≤ r.1 ∧ r.1 ≤ 2) ∧ II r.2 ∧ FR [kR_isInner, kR_meetX, kR_meetY] σ r.2) := by
  unfold fR_along
  have c1 := w32_rng i_0
  refine wp_rdI (by (try dsimp only) <;> first | omega | ((try simp (disch := omega) only [w32_of, w64_of, w8_of]) <;> first | omega | (split <;> omega) | (refine And.intro ?_ ?_ <;> split <;> omega))) (by (try dsimp only) <;> first | omega | ((try simp (disch := omega) only [w32_of, w64_of, w8_of]) <;> first | omega | (split <;> omega) | (refine And.intro ?_ ?_ <;> split <;> omega))) (fun x_1 e2 => ?_)
  have b3 : (-1000000000) ≤ x_1 ∧ x_1 ≤ 1000000000 := by rw [e2]; exact ii_kR_ex hσ _
  refine wp_rdI (by (try dsimp only) <;> first | omega | ((try simp (disch := omega) only [w32_of, w64_of, w8_of]) <;> first | omega | (split <;> omega) | (refine And.intro ?_ ?_ <;> split <;> omega))) (by (try dsimp only) <;> first | omega | ((try simp (disch := omega) only [w32_of, w64_of, w8_of]) <;> first | omega | (split <;> omega) | (refine And.intro ?_ ?_ <;> split <;> omega))) (fun x_3 e4 => ?_)
  have b5 : (-1000000000) ≤ x_3 ∧ x_3 ≤ 1000000000 := by rw [e4]; exact ii_kR_ey hσ _
  refine wp_rdI (by (try dsimp only) <;> first | omega | ((try simp (disch := omega) only [w32_of, w64_of, w8_of]) <;> first | omega | (split <;> omega) | (refine And.intro ?_ ?_ <;> split <;> omega))) (by (try dsimp only) <;> first | omega | ((try simp (disch := omega) only [w32_of, w64_of, w8_of]) <;> first | omega | (split <;> omega) | (refine And.intro ?_ ?_ <;> split <;> omega))) (fun x_5 e6 => ?_)
  have b7 : (-1000000000) ≤ x_5 ∧ x_5 ≤ 1000000000 := by rw [e6]; exact ii_kR_sx hσ _
  refine wp_rdI (by (try dsimp only) <;> first | omega | ((try simp (disch := omega) only [w32_of, w64_of, w8_of]) <;> first | omega | (split <;> omega) | (refine And.intro ?_ ?_ <;> split <;> omega))) (by (try dsimp only) <;> first | omega | ((try simp (disch := omega) only [w32_of, w64_of, w8_of]) <;> first | omega | (split <;> omega) | (refine And.intro ?_ ?_ <;> split <;> omega))) (fun x_7 e8 => ?_)
  have b9 : (-1000000000) ≤ x_7 ∧ x_7 ≤ 1000000000 := by rw [e8]; exact ii_kR_sy hσ _
  refine wp_bd (P := fun r => ((-1000000000) ≤ r ∧ r ≤ 1000000000)) ?_ ?_
  · refine wp_if (fun h10 => ?_) (fun h10 => ?_)
    · try simp (disch := omega) only [w32_of, w64_of, w8_of, decide_eq_true_eq, decide_eq_false_iff_not, fR_isBefore] at h10
      refine wp_rdI (by (try dsimp only) <;> first | omega | ((try simp (disch := omega) only [w32_of, w64_of, w8_of]) <;> first | omega | (split <;> omega) | (refine And.intro ?_ ?_ <;> split <;> omega))) (by (try dsimp only) <;> first | omega | ((try simp (disch := omega) only [w32_of, w64_of, w8_of]) <;> first | omega | (split <;> omega) | (refine And.intro ?_ ?_ <;> split <;> omega))) (fun x_14 e11 => ?_)
      have b12 : (-1000000000) ≤ x_14 ∧ x_14 ≤ 1000000000 := by rw [e11]; exact ii_kR_ex hσ _
      exact wp_some (by (try dsimp only) <;> first | omega | ((try simp (disch := omega) only [w32_of, w64_of, w8_of]) <;> first | omega | (split <;> omega) | (refine And.intro ?_ ?_ <;> split <;> omega)))
    · try simp (disch := omega) only [w32_of, w64_of, w8_of, decide_eq_true_eq, decide_eq_false_iff_not, fR_isBefore] at h10
      refine wp_rdI (by (try dsimp only) <;> first | omega | ((try simp (disch := omega) only [w32_of, w64_of, w8_of]) <;> first | omega | (split <;> omega) | (refine And.intro ?_ ?_ <;> split <;> omega))) (by (try dsimp only) <;> first | omega | ((try simp (disch := omega) only [w32_of, w64_of, w8_of]) <;> first | omega | (split <;> omega) | (refine And.intro ?_ ?_ <;> split <;> omega))) (fun x_17 e13 => ?_)
      have b14 : (-1000000000) ≤ x_17 ∧ x_17 ≤ 1000000000 := by rw [e13]; exact ii_kR_sx hσ _
      exact wp_some (by (try dsimp only) <;> first | omega | ((try simp (disch := omega) only [w32_of, w64_of, w8_of]) <;> first | omega | (split <;> omega) | (refine And.intro ?_ ?_ <;> split <;> omega)))
  rintro x_20 _ g15
  refine wp_bd (P := fun r => ((-1000000000) ≤ r ∧ r ≤ 1000000000)) ?_ ?_
  · refine wp_if (fun h16 => ?_) (fun h16 => ?_)
    · try simp (disch := omega) only [w32_of, w64_of, w8_of, decide_eq_true_eq, decide_eq_false_iff_not, fR_isBefore] at h16
      refine wp_rdI (by (try dsimp only) <;> first | omega | ((try simp (disch := omega) only [w32_of, w64_of, w8_of]) <;> first | omega | (split <;> omega) | (refine And.intro ?_ ?_ <;> split <;> omega))) (by (try dsimp only) <;> first | omega | ((try simp (disch := omega) only [w32_of, w64_of, w8_of]) <;> first | omega | (split <;> omega) | (refine And.intro ?_ ?_ <;> split <;> omega))) (fun x_26 e17 => ?_)
      have b18 : (-1000000000) ≤ x_26 ∧ x_26 ≤ 1000000000 := by rw [e17]; exact ii_kR_ey hσ _
      exact wp_some (by (try dsimp only) <;> first | omega | ((try simp (disch := omega) only [w32_of, w64_of, w8_of]) <;> first | omega | (split <;> omega) | (refine And.intro ?_ ?_ <;> split <;> omega)))
    · try simp (disch := omega) only [w32_of, w64_of, w8_of, decide_eq_true_eq, decide_eq_false_iff_not, fR_isBefore] at h16
      refine wp_rdI (by (try dsimp only) <;> first | omega | ((try simp (disch := omega) only [w32_of, w64_of, w8_of]) <;> first | omega | (split <;> omega) | (refine And.intro ?_ ?_ <;> split <;> omega))) (by (try dsimp only) <;> first | omega | ((try simp (disch := omega) only [w32_of, w64_of, w8_of]) <;> first | omega | (split <;> omega) | (refine And.intro ?_ ?_ <;> split <;> omega))) (fun x_29 e19 => ?_)
      have b20 : (-1000000000) ≤ x_29 ∧ x_29 ≤ 1000000000 := by rw [e19]; exact ii_kR_sy hσ _
      exact wp_some (by (try dsimp only) <;> first | omega | ((try simp (disch := omega) only [w32_of, w64_of, w8_of]) <;> first | omega | (split <;> omega) | (refine And.intro ?_ ?_ <;> split <;> omega)))
  rintro x_32 _ g21
  refine wp_bd (P := fun r => ((-1000000000) ≤ r ∧ r ≤ 1000000000)) ?_ ?_
  · refine wp_if (fun h22 => ?_) (fun h22 => ?_)
    · try simp (disch := omega) only [w32_of, w64_of, w8_of, decide_eq_true_eq, decide_eq_false_iff_not, fR_isBefore] at h22
      refine wp_rdI (by (try dsimp only) <;> first | omega | ((try simp (disch := omega) only [w32_of, w64_of, w8_of]) <;> first | omega | (split <;> omega) | (refine And.intro ?_ ?_ <;> split <;> omega))) (by (try dsimp only) <;> first | omega | ((try simp (disch := omega) only [w32_of, w64_of, w8_of]) <;> first | omega | (split <;> omega) | (refine And.intro ?_ ?_ <;> split <;> omega))) (fun x_38 e23 => ?_)
      have b24 : (-1000000000) ≤ x_38 ∧ x_38 ≤ 1000000000 := by rw [e23]; exact ii_kR_sx hσ _
      exact wp_some (by (try dsimp only) <;> first | omega | ((try simp (disch := omega) only [w32_of, w64_of, w8_of]) <;> first | omega | (split <;> omega) | (refine And.intro ?_ ?_ <;> split <;> omega)))
    · try simp (disch := omega) only [w32_of, w64_of, w8_of, decide_eq_true_eq, decide_eq_false_iff_not, fR_isBefore] at h22
      refine wp_rdI (by (try dsimp only) <;> first | omega | ((try simp (disch := omega) only [w32_of, w64_of, w8_of]) <;> first | omega | (split <;> omega) | (refine And.intro ?_ ?_ <;> split <;> omega))) (by (try dsimp only) <;> first | omega | ((try simp (disch := omega) only [w32_of, w64_of, w8_of]) <;> first | omega | (split <;> omega) | (refine And.intro ?_ ?_ <;> split <;> omega))) (fun x_41 e25 => ?_)
      have b26 : (-1000000000) ≤ x_41 ∧ x_41 ≤ 1000000000 := by rw [e25]; exact ii_kR_ex hσ _
      exact wp_some (by (try dsimp only) <;> first | omega | ((try simp (disch := omega) only [w32_of, w64_of, w8_of]) <;> first | omega | (split <;> omega) | (refine And.intro ?_ ?_ <;> split <;> omega)))
  rintro x_44 _ g27
  refine wp_bd (P := fun r => ((-1000000000) ≤ r ∧ r ≤ 1000000000)) ?_ ?_
  · refine wp_if (fun h28 => ?_) (fun h28 => ?_)
    · try simp (disch := omega) only [w32_of, w64_of, w8_of, decide_eq_true_eq, decide_eq_false_iff_not, fR_isBefore] at h28
      refine wp_rdI (by (try dsimp only) <;> first | omega | ((try simp (disch := omega) only [w32_of, w64_of, w8_of]) <;> first | omega | (split <;> omega) | (refine And.intro ?_ ?_ <;> split <;> omega))) (by (try dsimp only) <;> first | omega | ((try simp (disch := omega) only [w32_of, w64_of, w8_of]) <;> first | omega | (split <;> omega) | (refine And.intro ?_ ?_ <;> split <;> omega))) (fun x_50 e29 => ?_)
      have b30 : (-1000000000) ≤ x_50 ∧ x_50 ≤ 1000000000 := by rw [e29]; exact ii_kR_sy hσ _
      exact wp_some (by (try dsimp only) <;> first | omega | ((try simp (disch := omega) only [w32_of, w64_of, w8_of]) <;> first | omega | (split <;> omega) | (refine And.intro ?_ ?_ <;> split <;> omega)))
    · try simp (disch := omega) only [w32_of, w64_of, w8_of, decide_eq_true_eq, decide_eq_false_iff_not, fR_isBefore] at h28
      refine wp_rdI (by (try dsimp only) <;> first | omega | ((try simp (disch := omega) only [w32_of, w64_of, w8_of]) <;> first | omega | (split <;> omega) | (refine And.intro ?_ ?_ <;> split <;> omega))) (by (try dsimp only) <;> first | omega | ((try simp (disch := omega) only [w32_of, w64_of, w8_of]) <;> first | omega | (split <;> omega) | (refine And.intro ?_ ?_ <;> split <;> omega))) (fun x_53 e31 => ?_)
      have b32 : (-1000000000) ≤ x_53 ∧ x_53 ≤ 1000000000 := by rw [e31]; exact ii_kR_ey hσ _
      exact wp_some (by (try dsimp only) <;> first | omega | ((try simp (disch := omega) only [w32_of, w64_of, w8_of]) <;> first | omega | (split <;> omega) | (refine And.intro ?_ ?_ <;> split <;> omega)))
  rintro x_56 _ g33
  have c34 := w32_rng j_0
  refine wp_rdI (by (try dsimp only) <;> first | omega | ((try simp (disch := omega) only [w32_of, w64_of, w8_of]) <;> first | omega | (split <;> omega) | (refine And.intro ?_ ?_ <;> split <;> omega))) (by (try dsimp only) <;> first | omega | ((try simp (disch := omega) only [w32_of, w64_of, w8_of]) <;> first | omega | (split <;> omega) | (refine And.intro ?_ ?_ <;> split <;> omega))) (fun x_57 e35 => ?_)
  have b36 : (-1000000000) ≤ x_57 ∧ x_57 ≤ 1000000000 := by rw [e35]; exact ii_kR_ex hσ _
  refine wp_rdI (by (try dsimp only) <;> first | omega | ((try simp (disch := omega) only [w32_of, w64_of, w8_of]) <;> first | omega | (split <;> omega) | (refine And.intro ?_ ?_ <;> split <;> omega))) (by (try dsimp only) <;> first | omega | ((try simp (disch := omega) only [w32_of, w64_of, w8_of]) <;> first | omega | (split <;> omega) | (refine And.intro ?_ ?_ <;> split <;> omega))) (fun x_59 e37 => ?_)
  have b38 : (-1000000000) ≤ x_59 ∧ x_59 ≤ 1000000000 := by rw [e37]; exact ii_kR_ey hσ _
  refine wp_rdI (by (try dsimp only) <;> first | omega | ((try simp (disch := omega) only [w32_of, w64_of, w8_of]) <;> first | omega | (split <;> omega) | (refine And.intro ?_ ?_ <;> split <;> omega))) (by (try dsimp only) <;> first | omega | ((try simp (disch := omega) only [w32_of, w64_of, w8_of]) <;> first | omega | (split <;> omega) | (refine And.intro ?_ ?_ <;> split <;> omega))) (fun x_61 e39 => ?_)
  have b40 : (-1000000000) ≤ x_61 ∧ x_61 ≤ 1000000000 := by rw [e39]; exact ii_kR_sx hσ _
  refine wp_rdI (by (try dsimp only) <;> first | omega | ((try simp (disch := omega) only [w32_of, w64_of, w8_of]) <;> first | omega | (split <;> omega) | (refine And.intro ?_ ?_ <;> split <;> omega))) (by (try dsimp only) <;> first | omega | ((try simp (disch := omega) only [w32_of, w64_of, w8_of]) <;> first | omega | (split <;> omega) | (refine And.intro ?_ ?_ <;> split <;> omega))) (fun x_63 e41 => ?_)
  have b42 : (-1000000000) ≤ x_63 ∧ x_63 ≤ 1000000000 := by rw [e41]; exact ii_kR_sy hσ _
  refine wp_bd (P := fun r => ((-1000000000) ≤ r ∧ r ≤ 1000000000)) ?_ ?_
  · refine wp_if (fun h43 => ?_) (fun h43 => ?_)
    · try simp (disch := omega) only [w32_of, w64_of, w8_of, decide_eq_true_eq, decide_eq_false_iff_not, fR_isBefore] at h43
      refine wp_rdI (by (try dsimp only) <;> first | omega | ((try simp (disch := omega) only [w32_of, w64_of, w8_of]) <;> first | omega | (split <;> omega) | (refine And.intro ?_ ?_ <;> split <;> omega))) (by (try dsimp only) <;> first | omega | ((try simp (disch := omega) only [w32_of, w64_of, w8_of]) <;> first | omega | (split <;> omega) | (refine And.intro ?_ ?_ <;> split <;> omega))) (fun x_70 e44 => ?_)
      have b45 : (-1000000000) ≤ x_70 ∧ x_70 ≤ 1000000000 := by rw [e44]; exact ii_kR_ex hσ _
      exact wp_some (by (try dsimp only) <;> first | omega | ((try simp (disch := omega) only [w32_of, w64_of, w8_of]) <;> first | omega | (split <;> omega) | (refine And.intro ?_ ?_ <;> split <;> omega)))
    · try simp (disch := omega) only [w32_of, w64_of, w8_of, decide_eq_true_eq, decide_eq_false_iff_not, fR_isBefore] at h43
      refine wp_rdI (by (try dsimp only) <;> first | omega | ((try simp (disch := omega) only [w32_of, w64_of, w8_of]) <;> first | omega | (split <;> omega) | (refine And.intro ?_ ?_ <;> split <;> omega))) (by (try dsimp only) <;> first | omega | ((try simp (disch := omega) only [w32_of, w64_of, w8_of]) <;> first | omega | (split <;> omega) | (refine And.intro ?_ ?_ <;> split <;> omega))) (fun x_73 e46 => ?_)
      have b47 : (-1000000000) ≤ x_73 ∧ x_73 ≤ 1000000000 := by rw [e46]; exact ii_kR_sx hσ _
      exact wp_some (by (try dsimp only) <;> first | omega | ((try simp (disch := omega) only [w32_of, w64_of, w8_of]) <;> first | omega | (split <;> omega) | (refine And.intro ?_ ?_ <;> split <;> omega)))
  rintro x_76 _ g48
  refine wp_bd (P := fun r => ((-1000000000) ≤ r ∧ r ≤ 1000000000)) ?_ ?_
  · refine wp_if (fun h49 => ?_) (fun h49 => ?_)
    · try simp (disch := omega) only [w32_of, w64_of, w8_of, decide_eq_true_eq, decide_eq_false_iff_not, fR_isBefore] at h49
      refine wp_rdI (by (try dsimp only) <;> first | omega | ((try simp (disch := omega) only [w32_of, w64_of, w8_of]) <;> first | omega | (split <;> omega) | (refine And.intro ?_ ?_ <;> split <;> omega))) (by (try dsimp only) <;> first | omega | ((try simp (disch := omega) only [w32_of, w64_of, w8_of]) <;> first | omega | (split <;> omega) | (refine And.intro ?_ ?_ <;> split <;> omega))) (fun x_82 e50 => ?_)
      have b51 : (-1000000000) ≤ x_82 ∧ x_82 ≤ 1000000000 := by rw [e50]; exact ii_kR_ey hσ _
      exact wp_some (by (try dsimp only) <;> first | omega | ((try simp (disch := omega) only [w32_of, w64_of, w8_of]) <;> first | omega | (split <;> omega) | (refine And.intro ?_ ?_ <;> split <;> omega)))
    · try simp (disch := omega) only [w32_of, w64_of, w8_of, decide_eq_true_eq, decide_eq_false_iff_not, fR_isBefore] at h49
      refine wp_rdI (by (try dsimp only) <;> first | omega | ((try simp (disch := omega) only [w32_of, w64_of, w8_of]) <;> first | omega | (split <;> omega) | (refine And.intro ?_ ?_ <;> split <;> omega))) (by (try dsimp only) <;> first | omega | ((try simp (disch := omega) only [w32_of, w64_of, w8_of]) <;> first | omega | (split <;> omega) | (refine And.intro ?_ ?_ <;> split <;> omega))) (fun x_85 e52 => ?_)
      have b53 : (-1000000000) ≤ x_85 ∧ x_85 ≤ 1000000000 := by rw [e52]; exact ii_kR_sy hσ _
      exact wp_some (by (try dsimp only) <;> first | omega | ((try simp (disch := omega) only [w32_of, w64_of, w8_of]) <;> first | omega | (split <;> omega) | (refine And.intro ?_ ?_ <;> split <;> omega)))
  rintro x_88 _ g54
  refine wp_bd (P := fun r => ((-1000000000) ≤ r ∧ r ≤ 1000000000)) ?_ ?_
  · refine wp_if (fun h55 => ?_) (fun h55 => ?_)
    · try simp (disch := omega) only [w32_of, w64_of, w8_of, decide_eq_true_eq, decide_eq_false_iff_not, fR_isBefore] at h55
      refine wp_rdI (by (try dsimp only) <;> first | omega | ((try simp (disch := omega) only [w32_of, w64_of, w8_of]) <;> first | omega | (split <;> omega) | (refine And.intro ?_ ?_ <;> split <;> omega))) (by (try dsimp only) <;> first | omega | ((try simp (disch := omega) only [w32_of, w64_of, w8_of]) <;> first | omega | (split <;> omega) | (refine And.intro ?_ ?_ <;> split <;> omega))) (fun x_94 e56 => ?_)
      have b57 : (-1000000000) ≤ x_94 ∧ x_94 ≤ 1000000000 := by rw [e56]; exact ii_kR_sx hσ _
      exact wp_some (by (try dsimp only) <;> first | omega | ((try simp (disch := omega) only [w32_of, w64_of, w8_of]) <;> first | omega | (split <;> omega) | (refine And.intro ?_ ?_ <;> split <;> omega)))
    · try simp (disch := omega) only [w32_of, w64_of, w8_of, decide_eq_true_eq, decide_eq_false_iff_not, fR_isBefore] at h55
      refine wp_rdI (by (try dsimp only) <;> first | omega | ((try simp (disch := omega) only [w32_of, w64_of, w8_of]) <;> first | omega | (split <;> omega) | (refine And.intro ?_ ?_ <;> split <;> omega))) (by (try dsimp only) <;> first | omega | ((try simp (disch := omega) only [w32_of, w64_of, w8_of]) <;> first | omega | (split <;> omega) | (refine And.intro ?_ ?_ <;> split <;> omega))) (fun x_97 e58 => ?_)
      have b59 : (-1000000000) ≤ x_97 ∧ x_97 ≤ 1000000000 := by rw [e58]; exact ii_kR_ex hσ _
      exact wp_some (by (try dsimp only) <;> first | omega | ((try simp (disch := omega) only [w32_of, w64_of, w8_of]) <;> first | omega | (split <;> omega) | (refine And.intro ?_ ?_ <;> split <;> omega)))
  rintro x_100 _ g60
  refine wp_bd (P := fun r => ((-1000000000) ≤ r ∧ r ≤ 1000000000)) ?_ ?_
  · refine wp_if (fun h61 => ?_) (fun h61 => ?_)
    · try simp (disch := omega) only [w32_of, w64_of, w8_of, decide_eq_true_eq, decide_eq_false_iff_not, fR_isBefore] at h61
      refine wp_rdI (by (try dsimp only) <;> first | omega | ((try simp (disch := omega) only [w32_of, w64_of, w8_of]) <;> first | omega | (split <;> omega) | (refine And.intro ?_ ?_ <;> split <;> omega))) (by (try dsimp only) <;> first | omega | ((try simp (disch := omega) only [w32_of, w64_of, w8_of]) <;> first | omega | (split <;> omega) | (refine And.intro ?_ ?_ <;> split <;> omega))) (fun x_106 e62 => ?_)
      have b63 : (-1000000000) ≤ x_106 ∧ x_106 ≤ 1000000000 := by rw [e62]; exact ii_kR_sy hσ _
      exact wp_some (by (try dsimp only) <;> first | omega | ((try simp (disch := omega) only [w32_of, w64_of, w8_of]) <;> first | omega | (split <;> omega) | (refine And.intro ?_ ?_ <;> split <;> omega)))
    · try simp (disch := omega) only [w32_of, w64_of, w8_of, decide_eq_true_eq, decide_eq_false_iff_not, fR_isBefore] at h61
      refine wp_rdI (by (try dsimp only) <;> first | omega | ((try simp (disch := omega) only [w32_of, w64_of, w8_of]) <;> first | omega | (split <;> omega) | (refine And.intro ?_ ?_ <;> split <;> omega))) (by (try dsimp only) <;> first | omega | ((try simp (disch := omega) only [w32_of, w64_of, w8_of]) <;> first | omega | (split <;> omega) | (refine And.intro ?_ ?_ <;> split <;> omega))) (fun x_109 e64 => ?_)
      have b65 : (-1000000000) ≤ x_109 ∧ x_109 ≤ 1000000000 := by rw [e64]; exact ii_kR_ey hσ _
      exact wp_some (by (try dsimp only) <;> first | omega | ((try simp (disch := omega) only [w32_of, w64_of, w8_of]) <;> first | omega | (split <;> omega) | (refine And.intro ?_ ?_ <;> split <;> omega)))
  rintro x_112 _ g66
  refine wp_lt (fun x_114 e67 => ?_)
  refine wp_lt (fun x_116 e68 => ?_)
  refine wp_lt (fun x_118 e69 => ?_)
  refine wp_lt (fun x_120 e70 => ?_)
  refine wp_if (fun h71 => ?_) (fun h71 => ?_)
  · try simp (disch := omega) only [w32_of, w64_of, w8_of, decide_eq_true_eq, decide_eq_false_iff_not, fR_isBefore] at h71
    exact wp_some ⟨(by (try dsimp only) <;> first | omega | ((try simp (disch := omega) only [w32_of, w64_of, w8_of]) <;> first | omega | (split <;> omega) | (refine And.intro ?_ ?_ <;> split <;> omega))), hσ, (FR_refl _ _)⟩
  · try simp (disch := omega) only [w32_of, w64_of, w8_of, decide_eq_true_eq, decide_eq_false_iff_not, fR_isBefore] at h71
    refine wp_bd (s_R_meetsAt (σ := σ) (x_0 := x_114) (y_0 := x_116) hσ (by (try dsimp only) <;> first | omega | ((try simp (disch := omega) only [w32_of, w64_of, w8_of]) <;> first | omega | (split <;> omega) | (refine And.intro ?_ ?_ <;> split <;> omega))) (by (try dsimp only) <;> first | omega | ((try simp (disch := omega) only [w32_of, w64_of, w8_of]) <;> first | omega | (split <;> omega) | (refine And.intro ?_ ?_ <;> split <;> omega)))) ?_
    rintro σ_123 _ ⟨hσ_123, f72⟩
    exact wp_some ⟨(by (try dsimp only) <;> first | omega | ((try simp (disch := omega) only [w32_of, w64_of, w8_of]) <;> first | omega | (split <;> omega) | (refine And.intro ?_ ?_ <;> split <;> omega))), hσ_123, (FR_le (ms := [kR_isInner, kR_meetX, kR_meetY]) f72 (by decide))⟩
theorem s_R_meet {σ : SG} {i_0 : Int} {j_0 : Int} (hσ : II σ) (qi_0 : 0 ≤ i_0 ∧ i_0 ≤ 4199) (qj_0 : 0 ≤ j_0 ∧ j_0 ≤ 4199) : wp_ (fR_meet σ i_0 j_0) (fun r => (0 ≤ r.1 ∧ r.1 ≤ 2) ∧ II r.2 ∧ FR [kR_isInner, kR_meetX, kR_meetY] σ r.2) := by
  unfold fR_meet
  have c1 := w32_rng i_0
  refine wp_rdI (by (try dsimp only) <;> first | omega | ((try simp (disch := omega) only [w32_of, w64_of, w8_of]) <;> first | omega | (split <;> omega) | (refine And.intro ?_ ?_ <;> split <;> omega))) (by (try dsimp only) <;> first | omega | ((try simp (disch := omega) only [w32_of, w64_of, w8_of]) <;> first | omega | (split <;> omega) | (refine And.intro ?_ ?_ <;> split <;> omega))) (fun x_1 e2 => ?_)
  have b3 : (-1000000000) ≤ x_1 ∧ x_1 ≤ 1000000000 := by rw [e2]; exact ii_kR_sx hσ _
  refine wp_rdI (by (try dsimp only) <;> first | omega | ((try simp (disch := omega) only [w32_of, w64_of, w8_of]) <;> first | omega | (split <;> omega) | (refine And.intro ?_ ?_ <;> split <;> omega))) (by (try dsimp only) <;> first | omega | ((try simp (disch := omega) only [w32_of, w64_of, w8_of]) <;> first | omega | (split <;> omega) | (refine And.intro ?_ ?_ <;> split <;> omega))) (fun x_3 e4 => ?_)
  have b5 : (-1000000000) ≤ x_3 ∧ x_3 ≤ 1000000000 := by rw [e4]; exact ii_kR_sy hσ _
  refine wp_rdI (by (try dsimp only) <;> first | omega | ((try simp (disch := omega) only [w32_of, w64_of, w8_of]) <;> first | omega | (split <;> omega) | (refine And.intro ?_ ?_ <;> split <;> omega))) (by (try dsimp only) <;> first | omega | ((try simp (disch := omega) only [w32_of, w64_of, w8_of]) <;> first | omega | (split <;> omega) | (refine And.intro ?_ ?_ <;> split <;> omega))) (fun x_5 e6 => ?_)
  have b7 : (-1000000000) ≤ x_5 ∧ x_5 ≤ 1000000000 := by rw [e6]; exact ii_kR_ex hσ _
  refine wp_rdI (by (try dsimp only) <;> first | omega | ((try simp (disch := omega) only [w32_of, w64_of, w8_of]) <;> first | omega | (split <;> omega) | (refine And.intro ?_ ?_ <;> split <;> omega))) (by (try dsimp only) <;> first | omega | ((try simp (disch := omega) only [w32_of, w64_of, w8_of]) <;> first | omega | (split <;> omega) | (refine And.intro ?_ ?_ <;> split <;> omega))) (fun x_7 e8 => ?_)
  have b9 : (-1000000000) ≤ x_7 ∧ x_7 ≤ 1000000000 := by rw [e8]; exact ii_kR_ey hσ _
  have c10 := w32_rng j_0
  refine wp_rdI (by (try dsimp only) <;> first | omega | ((try simp (disch := omega) only [w32_of, w64_of, w8_of]) <;> first | omega | (split <;> omega) | (refine And.intro ?_ ?_ <;> split <;> omega))) (by (try dsimp only) <;> first | omega | ((try simp (disch := omega) only [w32_of, w64_of, w8_of]) <;> first | omega | (split <;> omega) | (refine And.intro ?_ ?_ <;> split <;> omega))) (fun x_9 e11 => ?_)
  have b12 : (-1000000000) ≤ x_9 ∧ x_9 ≤ 1000000000 := by rw [e11]; exact ii_kR_sx hσ _
  refine wp_rdI (by (try dsimp only) <;> first | omega | ((try simp (disch := omega) only [w32_of, w64_of, w8_of]) <;> first | omega | (split <;> omega) | (refine And.intro ?_ ?_ <;> split <;> omega))) (by (try dsimp only) <;> first | omega | ((try simp (disch := omega) only [w32_of, w64_of, w8_of]) <;> first | omega | (split <;> omega) | (refine And.intro ?_ ?_ <;> split <;> omega))) (fun x_11 e13 => ?_)
  have b14 : (-1000000000) ≤ x_11 ∧ x_11 ≤ 1000000000 := by rw [e13]; exact ii_kR_sy hσ _
  refine wp_rdI (by (try dsimp only) <;> first | omega | ((try simp (disch := omega) only [w32_of, w64_of, w8_of]) <;> first | omega | (split <;> omega) | (refine And.intro ?_ ?_ <;> split <;> omega))) (by (try dsimp only) <;> first | omega | ((try simp (disch := omega) only [w32_of, w64_of, w8_of]) <;> first | omega | (split <;> omega) | (refine And.intro ?_ ?_ <;> split <;> omega))) (fun x_13 e15 => ?_)
  have b16 : (-1000000000) ≤ x_13 ∧ x_13 ≤ 1000000000 := by rw [e15]; exact ii_kR_sx hσ _
  refine wp_rdI (by (try dsimp only) <;> first | omega | ((try simp (disch := omega) only [w32_of, w64_of, w8_of]) <;> first | omega | (split <;> omega) | (refine And.intro ?_ ?_ <;> split <;> omega))) (by (try dsimp only) <;> first | omega | ((try simp (disch := omega) only [w32_of, w64_of, w8_of]) <;> first | omega | (split <;> omega) | (refine And.intro ?_ ?_ <;> split <;> omega))) (fun x_15 e17 => ?_)
  have b18 : (-1000000000) ≤ x_15 ∧ x_15 ≤ 1000000000 := by rw [e17]; exact ii_kR_sy hσ _
  refine wp_rdI (by (try dsimp only) <;> first | omega | ((try simp (disch := omega) only [w32_of, w64_of, w8_of]) <;> first | omega | (split <;> omega) | (refine And.intro ?_ ?_ <;> split <;> omega))) (by (try dsimp only) <;> first | omega | ((try simp (disch := omega) only [w32_of, w64_of, w8_of]) <;> first | omega | (split <;> omega) | (refine And.intro ?_ ?_ <;> split <;> omega))) (fun x_17 e19 => ?_)
  have b20 : (-1000000000) ≤ x_17 ∧ x_17 ≤ 1000000000 := by rw [e19]; exact ii_kR_ex hσ _
  refine wp_rdI (by (try dsimp only) <;> first | omega | ((try simp (disch := omega) only [w32_of, w64_of, w8_of]) <;> first | omega | (split <;> omega) | (refine And.intro ?_ ?_ <;> split <;> omega))) (by (try dsimp only) <;> first | omega | ((try simp (disch := omega) only [w32_of, w64_of, w8_of]) <;> first | omega | (split <;> omega) | (refine And.intro ?_ ?_ <;> split <;> omega))) (fun x_19 e21 => ?_)
  have b22 : (-1000000000) ≤ x_19 ∧ x_19 ≤ 1000000000 := by rw [e21]; exact ii_kR_ey hσ _
  refine wp_rdI (by (try dsimp only) <;> first | omega | ((try simp (disch := omega) only [w32_of, w64_of, w8_of]) <;> first | omega | (split <;> omega) | (refine And.intro ?_ ?_ <;> split <;> omega))) (by (try dsimp only) <;> first | omega | ((try simp (disch := omega) only [w32_of, w64_of, w8_of]) <;> first | omega | (split <;> omega) | (refine And.intro ?_ ?_ <;> split <;> omega))) (fun x_21 e23 => ?_)
  have b24 : (-1000000000) ≤ x_21 ∧ x_21 ≤ 1000000000 := by rw [e23]; exact ii_kR_ex hσ _
  refine wp_rdI (by (try dsimp only) <;> first | omega | ((try simp (disch := omega) only [w32_of, w64_of, w8_of]) <;> first | omega | (split <;> omega) | (refine And.intro ?_ ?_ <;> split <;> omega))) (by (try dsimp only) <;> first | omega | ((try simp (disch := omega) only [w32_of, w64_of, w8_of]) <;> first | omega | (split <;> omega) | (refine And.intro ?_ ?_ <;> split <;> omega))) (fun x_23 e25 => ?_)
  have b26 : (-1000000000) ≤ x_23 ∧ x_23 ≤ 1000000000 := by rw [e25]; exact ii_kR_ey hσ _
  refine wp_rdI (by (try dsimp only) <;> first | omega | ((try simp (disch := omega) only [w32_of, w64_of, w8_of]) <;> first | omega | (split <;> omega) | (refine And.intro ?_ ?_ <;> split <;> omega))) (by (try dsimp only) <;> first | omega | ((try simp (disch := omega) only [w32_of, w64_of, w8_of]) <;> first | omega | (split <;> omega) | (refine And.intro ?_ ?_ <;> split <;> omega))) (fun x_25 e27 => ?_)
  have b28 : (-1000000000) ≤ x_25 ∧ x_25 ≤ 1000000000 := by rw [e27]; exact ii_kR_sx hσ _
  refine wp_rdI (by (try dsimp only) <;> first | omega | ((try simp (disch := omega) only [w32_of, w64_of, w8_of]) <;> first | omega | (split <;> omega) | (refine And.intro ?_ ?_ <;> split <;> omega))) (by (try dsimp only) <;> first | omega | ((try simp (disch := omega) only [w32_of, w64_of, w8_of]) <;> first | omega | (split <;> omega) | (refine And.intro ?_ ?_ <;> split <;> omega))) (fun x_27 e29 => ?_)
  have b30 : (-1000000000) ≤ x_27 ∧ x_27 ≤ 1000000000 := by rw [e29]; exact ii_kR_sy hσ _
  refine wp_rdI (by (try dsimp only) <;> first | omega | ((try simp (disch := omega) only [w32_of, w64_of, w8_of]) <;> first | omega | (split <;> omega) | (refine And.intro ?_ ?_ <;> split <;> omega))) (by (try dsimp only) <;> first | omega | ((try simp (disch := omega) only [w32_of, w64_of, w8_of]) <;> first | omega | (split <;> omega) | (refine And.intro ?_ ?_ <;> split <;> omega))) (fun x_29 e31 => ?_)
  have b32 : (-1000000000) ≤ x_29 ∧ x_29 ≤ 1000000000 := by rw [e31]; exact ii_kR_ex hσ _
  refine wp_rdI (by (try dsimp only) <;> first | omega | ((try simp (disch := omega) only [w32_of, w64_of, w8_of]) <;> first | omega | (split <;> omega) | (refine And.intro ?_ ?_ <;> split <;> omega))) (by (try dsimp only) <;> first | omega | ((try simp (disch := omega) only [w32_of, w64_of, w8_of]) <;> first | omega | (split <;> omega) | (refine And.intro ?_ ?_ <;> split <;> omega))) (fun x_31 e33 => ?_)
  have b34 : (-1000000000) ≤ x_31 ∧ x_31 ≤ 1000000000 := by rw [e33]; exact ii_kR_ey hσ _
  refine wp_rdI (by (try dsimp only) <;> first | omega | ((try simp (disch := omega) only [w32_of, w64_of, w8_of]) <;> first | omega | (split <;> omega) | (refine And.intro ?_ ?_ <;> split <;> omega))) (by (try dsimp only) <;> first | omega | ((try simp (disch := omega) only [w32_of, w64_of, w8_of]) <;> first | omega | (split <;> omega) | (refine And.intro ?_ ?_ <;> split <;> omega))) (fun x_33 e35 => ?_)
  have b36 : (-1000000000) ≤ x_33 ∧ x_33 ≤ 1000000000 := by rw [e35]; exact ii_kR_sx hσ _
  refine wp_rdI (by (try dsimp only) <;> first | omega | ((try simp (disch := omega) only [w32_of, w64_of, w8_of]) <;> first | omega | (split <;> omega) | (refine And.intro ?_ ?_ <;> split <;> omega))) (by (try dsimp only) <;> first | omega | ((try simp (disch := omega) only [w32_of, w64_of, w8_of]) <;> first | omega | (split <;> omega) | (refine And.intro ?_ ?_ <;> split <;> omega))) (fun x_35 e37 => ?_)
  have b38 : (-1000000000) ≤ x_35 ∧ x_35 ≤ 1000000000 := by rw [e37]; exact ii_kR_sy hσ _
  refine wp_rdI (by (try dsimp only) <;> first | omega | ((try simp (disch := omega) only [w32_of, w64_of, w8_of]) <;> first | omega | (split <;> omega) | (refine And.intro ?_ ?_ <;> split <;> omega))) (by (try dsimp only) <;> first | omega | ((try simp (disch := omega) only [w32_of, w64_of, w8_of]) <;> first | omega | (split <;> omega) | (refine And.intro ?_ ?_ <;> split <;> omega))) (fun x_37 e39 => ?_)
  have b40 : (-1000000000) ≤ x_37 ∧ x_37 ≤ 1000000000 := by rw [e39]; exact ii_kR_sx hσ _
  refine wp_rdI (by (try dsimp only) <;> first | omega | ((try simp (disch := omega) only [w32_of, w64_of, w8_of]) <;> first | omega | (split <;> omega) | (refine And.intro ?_ ?_ <;> split <;> omega))) (by (try dsimp only) <;> first | omega | ((try simp (disch := omega) only [w32_of, w64_of, w8_of]) <;> first | omega | (split <;> omega) | (refine And.intro ?_ ?_ <;> split <;> omega))) (fun x_39 e41 => ?_)
  have b42 : (-1000000000) ≤ x_39 ∧ x_39 ≤ 1000000000 := by rw [e41]; exact ii_kR_sy hσ _
  refine wp_rdI (by (try dsimp only) <;> first | omega | ((try simp (disch := omega) only [w32_of, w64_of, w8_of]) <;> first | omega | (split <;> omega) | (refine And.intro ?_ ?_ <;> split <;> omega))) (by (try dsimp only) <;> first | omega | ((try simp (disch := omega) only [w32_of, w64_of, w8_of]) <;> first | omega | (split <;> omega) | (refine And.intro ?_ ?_ <;> split <;> omega))) (fun x_41 e43 => ?_)
  have b44 : (-1000000000) ≤ x_41 ∧ x_41 ≤ 1000000000 := by rw [e43]; exact ii_kR_ex hσ _
  refine wp_rdI (by (try dsimp only) <;> first | omega | ((try simp (disch := omega) only [w32_of, w64_of, w8_of]) <;> first | omega | (split <;> omega) | (refine And.intro ?_ ?_ <;> split <;> omega))) (by (try dsimp only) <;> first | omega | ((try simp (disch := omega) only [w32_of, w64_of, w8_of]) <;> first | omega | (split <;> omega) | (refine And.intro ?_ ?_ <;> split <;> omega))) (fun x_43 e45 => ?_)
  have b46 : (-1000000000) ≤ x_43 ∧ x_43 ≤ 1000000000 := by rw [e45]; exact ii_kR_ey hσ _
  refine wp_rdI (by (try dsimp only) <;> first | omega | ((try simp (disch := omega) only [w32_of, w64_of, w8_of]) <;> first | omega | (split <;> omega) | (refine And.intro ?_ ?_ <;> split <;> omega))) (by (try dsimp only) <;> first | omega | ((try simp (disch := omega) only [w32_of, w64_of, w8_of]) <;> first | omega | (split <;> omega) | (refine And.intro ?_ ?_ <;> split <;> omega))) (fun x_45 e47 => ?_)
  have b48 : (-1000000000) ≤ x_45 ∧ x_45 ≤ 1000000000 := by rw [e47]; exact ii_kR_ex hσ _
  refine wp_rdI (by (try dsimp only) <;> first | omega | ((try simp (disch := omega) only [w32_of, w64_of, w8_of]) <;> first | omega | (split <;> omega) | (refine And.intro ?_ ?_ <;> split <;> omega))) (by (try dsimp only) <;> first | omega | ((try simp (disch := omega) only [w32_of, w64_of, w8_of]) <;> first | omega | (split <;> omega) | (refine And.intro ?_ ?_ <;> split <;> omega))) (fun x_47 e49 => ?_)
  have b50 : (-1000000000) ≤ x_47 ∧ x_47 ≤ 1000000000 := by rw [e49]; exact ii_kR_ey hσ _
  have c52 := p_R_turn (ax_0 := x_1) (ay_0 := x_3) (bx_0 := x_5) (by_0 := x_7) (cx_0 := x_9) (cy_0 := x_11)
  have c53 := w32_rng (fR_turn x_1 x_3 x_5 x_7 x_9 x_11)
  have c54 := p_R_turn (ax_0 := x_13) (ay_0 := x_15) (bx_0 := x_17) (by_0 := x_19) (cx_0 := x_21) (cy_0 := x_23)
  have c55 := w32_rng (fR_turn x_13 x_15 x_17 x_19 x_21 x_23)
  refine wp_if (fun h51 => ?_) (fun h51 => ?_)
  · try simp (disch := omega) only [w32_of, w64_of, w8_of, decide_eq_true_eq, decide_eq_false_iff_not] at h51
    refine wp_bd (s_R_along (σ := σ) (i_0 := i_0) (j_0 := j_0) hσ (by (try dsimp only) <;> first | omega | ((try simp (disch := omega) only [w32_of, w64_of, w8_of]) <;> first | omega | (split <;> omega) | (refine And.intro ?_ ?_ <;> split <;> omega))) (by (try dsimp only) <;> first | omega | ((try simp (disch := omega) only [w32_of, w64_of, w8_of]) <;> first | omega | (split <;> omega) | (refine And.intro ?_ ?_ <;> split <;> omega)))) ?_
    rintro ⟨x_51, σ_50⟩ _ y58
    dsimp only at y58 ⊢
    obtain ⟨g56, hσ_50, f57⟩ := y58
    exact wp_some ⟨(by (try dsimp only) <;> first | omega | ((try simp (disch := omega) only [w32_of, w64_of, w8_of]) <;> first | omega | (split <;> omega) | (refine And.intro ?_ ?_ <;> split <;> omega))), hσ_50, (FR_le (ms := [kR_isInner, kR_meetX, kR_meetY]) f57 (by decide))⟩
  · try simp (disch := omega) only [w32_of, w64_of, w8_of, decide_eq_true_eq, decide_eq_false_iff_not] at h51
    have c60 := w32_rng ((fR_turn x_1 x_3 x_5 x_7 x_9 x_11) * (fR_turn x_13 x_15 x_17 x_19 x_21 x_23))
    have c61 := p_R_turn (ax_0 := x_25) (ay_0 := x_27) (bx_0 := x_29) (by_0 := x_31) (cx_0 := x_33) (cy_0 := x_35)
    have c62 := p_R_turn (ax_0 := x_37) (ay_0 := x_39) (bx_0 := x_41) (by_0 := x_43) (cx_0 := x_45) (cy_0 := x_47)
    have c63 := w32_rng ((fR_turn x_25 x_27 x_29 x_31 x_33 x_35) * (fR_turn x_37 x_39 x_41 x_43 x_45 x_47))
    refine wp_if (fun h59 => ?_) (fun h59 => ?_)
    · try simp (disch := omega) only [w32_of, w64_of, w8_of, decide_eq_true_eq, decide_eq_false_iff_not] at h59
      exact wp_some ⟨(by (try dsimp only) <;> first | omega | ((try simp (disch := omega) only [w32_of, w64_of, w8_of]) <;> first | omega | (split <;> omega) | (refine And.intro ?_ ?_ <;> split <;> omega))), hσ, (FR_refl _ _)⟩
    · try simp (disch := omega) only [w32_of, w64_of, w8_of, decide_eq_true_eq, decide_eq_false_iff_not] at h59
      have c64 := bz_bd true
      refine wp_wfI hσ b_kR_isInner (by (try dsimp only) <;> first | omega | ((try simp (disch := omega) only [w32_of, w64_of, w8_of]) <;> first | omega | (split <;> omega) | (refine And.intro ?_ ?_ <;> split <;> omega))) (fun σ_52 hσ_52 e65 => ?_)
      have f66 := FR_sg e65
      refine wp_bd (P := fun r => II r ∧ FR [kR_isInner, kR_meetX, kR_meetY] σ_52 r) ?_ ?_
      · refine wp_if (fun h67 => ?_) (fun h67 => ?_)
        · try simp (disch := omega) only [w32_of, w64_of, w8_of, decide_eq_true_eq, decide_eq_false_iff_not] at h67
          refine wp_rdI (by (try dsimp only) <;> first | omega | ((try simp (disch := omega) only [w32_of, w64_of, w8_of]) <;> first | omega | (split <;> omega) | (refine And.intro ?_ ?_ <;> split <;> omega))) (by (try dsimp only) <;> first | omega | ((try simp (disch := omega) only [w32_of, w64_of, w8_of]) <;> first | omega | (split <;> omega) | (refine And.intro ?_ ?_ <;> split <;> omega))) (fun x_58 e68 => ?_)
          have b69 : (-1000000000) ≤ x_58 ∧ x_58 ≤ 1000000000 := by rw [e68]; exact ii_kR_sx hσ_52 _
          refine wp_rdI (by (try dsimp only) <;> first | omega | ((try simp (disch := omega) only [w32_of, w64_of, w8_of]) <;> first | omega | (split <;> omega) | (refine And.intro ?_ ?_ <;> split <;> omega))) (by (try dsimp only) <;> first | omega | ((try simp (disch := omega) only [w32_of, w64_of, w8_of]) <;> first | omega | (split <;> omega) | (refine And.intro ?_ ?_ <;> split <;> omega))) (fun x_60 e70 => ?_)
          have b71 : (-1000000000) ≤ x_60 ∧ x_60 ≤ 1000000000 := by rw [e70]; exact ii_kR_sy hσ_52 _
          refine wp_bd (s_R_meetsAt (σ := σ_52) (x_0 := x_58) (y_0 := x_60) hσ_52 (by (try dsimp only) <;> first | omega | ((try simp (disch := omega) only [w32_of, w64_of, w8_of]) <;> first | omega | (split <;> omega) | (refine And.intro ?_ ?_ <;> split <;> omega))) (by (try dsimp only) <;> first | omega | ((try simp (disch := omega) only [w32_of, w64_of, w8_of]) <;> first | omega | (split <;> omega) | (refine And.intro ?_ ?_ <;> split <;> omega)))) ?_
          rintro σ_63 _ ⟨hσ_63, f72⟩
          exact wp_some ⟨hσ_63, (FR_le (ms := [kR_isInner, kR_meetX, kR_meetY]) f72 (by decide))⟩
        · try simp (disch := omega) only [w32_of, w64_of, w8_of, decide_eq_true_eq, decide_eq_false_iff_not] at h67
          refine wp_bd (P := fun r => II r ∧ FR [kR_isInner, kR_meetX, kR_meetY] σ_52 r) ?_ ?_
          · refine wp_if (fun h73 => ?_) (fun h73 => ?_)
            · try simp (disch := omega) only [w32_of, w64_of, w8_of, decide_eq_true_eq, decide_eq_false_iff_not] at h73
              refine wp_rdI (by (try dsimp only) <;> first | omega | ((try simp (disch := omega) only [w32_of, w64_of, w8_of]) <;> first | omega | (split <;> omega) | (refine And.intro ?_ ?_ <;> split <;> omega))) (by (try dsimp only) <;> first | omega | ((try simp (disch := omega) only [w32_of, w64_of, w8_of]) <;> first | omega | (split <;> omega) | (refine And.intro ?_ ?_ <;> split <;> omega))) (fun x_70 e74 => ?_)
              have b75 : (-1000000000) ≤ x_70 ∧ x_70 ≤ 1000000000 := by rw [e74]; exact ii_kR_ex hσ_52 _
              refine wp_rdI (by (try dsimp only) <;> first | omega | ((try simp (disch := omega) only [w32_of, w64_of, w8_of]) <;> first | omega | (split <;> omega) | (refine And.intro ?_ ?_ <;> split <;> omega))) (by (try dsimp only) <;> first | omega | ((try simp (disch := omega) only [w32_of, w64_of, w8_of]) <;> first | omega | (split <;> omega) | (refine And.intro ?_ ?_ <;> split <;> omega))) (fun x_72 e76 => ?_)
              have b77 : (-1000000000) ≤ x_72 ∧ x_72 ≤ 1000000000 := by rw [e76]; exact ii_kR_ey hσ_52 _
              refine wp_bd (s_R_meetsAt (σ := σ_52) (x_0 := x_70) (y_0 := x_72) hσ_52 (by (try dsimp only) <;> first | omega | ((try simp (disch := omega) only [w32_of, w64_of, w8_of]) <;> first | omega | (split <;> omega) | (refine And.intro ?_ ?_ <;> split <;> omega))) (by (try dsimp only) <;> first | omega | ((try simp (disch := omega) only [w32_of, w64_of, w8_of]) <;> first | omega | (split <;> omega) | (refine And.intro ?_ ?_ <;> split <;> omega)))) ?_
              rintro σ_75 _ ⟨hσ_75, f78⟩
              exact wp_some ⟨hσ_75, (FR_le (ms := [kR_isInner, kR_meetX, kR_meetY]) f78 (by decide))⟩
            · try simp (disch := omega) only [w32_of, w64_of, w8_of, decide_eq_true_eq, decide_eq_false_iff_not] at h73
              refine wp_bd (P := fun r => II r ∧ FR [kR_isInner, kR_meetX, kR_meetY] σ_52 r) ?_ ?_
              · have c80 := w32_rng (fR_turn x_25 x_27 x_29 x_31 x_33 x_35)
                refine wp_if (fun h79 => ?_) (fun h79 => ?_)
                · try simp (disch := omega) only [w32_of, w64_of, w8_of, decide_eq_true_eq, decide_eq_false_iff_not] at h79
                  refine wp_rdI (by (try dsimp only) <;> first | omega | ((try simp (disch := omega) only [w32_of, w64_of, w8_of]) <;> first | omega | (split <;> omega) | (refine And.intro ?_ ?_ <;> split <;> omega))) (by (try dsimp only) <;> first | omega | ((try simp (disch := omega) only [w32_of, w64_of, w8_of]) <;> first | omega | (split <;> omega) | (refine And.intro ?_ ?_ <;> split <;> omega))) (fun x_82 e81 => ?_)
                  have b82 : (-1000000000) ≤ x_82 ∧ x_82 ≤ 1000000000 := by rw [e81]; exact ii_kR_sx hσ_52 _
                  refine wp_rdI (by (try dsimp only) <;> first | omega | ((try simp (disch := omega) only [w32_of, w64_of, w8_of]) <;> first | omega | (split <;> omega) | (refine And.intro ?_ ?_ <;> split <;> omega))) (by (try dsimp only) <;> first | omega | ((try simp (disch := omega) only [w32_of, w64_of, w8_of]) <;> first | omega | (split <;> omega) | (refine And.intro ?_ ?_ <;> split <;> omega))) (fun x_84 e83 => ?_)
                  have b84 : (-1000000000) ≤ x_84 ∧ x_84 ≤ 1000000000 := by rw [e83]; exact ii_kR_sy hσ_52 _
                  refine wp_bd (s_R_meetsAt (σ := σ_52) (x_0 := x_82) (y_0 := x_84) hσ_52 (by (try dsimp only) <;> first | omega | ((try simp (disch := omega) only [w32_of, w64_of, w8_of]) <;> first | omega | (split <;> omega) | (refine And.intro ?_ ?_ <;> split <;> omega))) (by (try dsimp only) <;> first | omega | ((try simp (disch := omega) only [w32_of, w64_of, w8_of]) <;> first | omega | (split <;> omega) | (refine And.intro ?_ ?_ <;> split <;> omega)))) ?_
                  rintro σ_87 _ ⟨hσ_87, f85⟩
                  exact wp_some ⟨hσ_87, (FR_le (ms := [kR_isInner, kR_meetX, kR_meetY]) f85 (by decide))⟩
                · try simp (disch := omega) only [w32_of, w64_of, w8_of, decide_eq_true_eq, decide_eq_false_iff_not] at h79
                  refine wp_bd (P := fun r => II r ∧ FR [kR_isInner, kR_meetX, kR_meetY] σ_52 r) ?_ ?_
                  · have c87 := w32_rng (fR_turn x_37 x_39 x_41 x_43 x_45 x_47)
                    refine wp_if (fun h86 => ?_) (fun h86 => ?_)
                    · try simp (disch := omega) only [w32_of, w64_of, w8_of, decide_eq_true_eq, decide_eq_false_iff_not] at h86
                      refine wp_rdI (by (try dsimp only) <;> first | omega | ((try simp (disch := omega) only [w32_of, w64_of, w8_of]) <;> first | omega | (split <;> omega) | (refine And.intro ?_ ?_ <;> split <;> omega))) (by (try dsimp only) <;> first | omega | ((try simp (disch := omega) only [w32_of, w64_of, w8_of]) <;> first | omega | (split <;> omega) | (refine And.intro ?_ ?_ <;> split <;> omega))) (fun x_94 e88 => ?_)
                      have b89 : (-1000000000) ≤ x_94 ∧ x_94 ≤ 1000000000 := by rw [e88]; exact ii_kR_ex hσ_52 _
                      refine wp_rdI (by (try dsimp only) <;> first | omega | ((try simp (disch := omega) only [w32_of, w64_of, w8_of]) <;> first | omega | (split <;> omega) | (refine And.intro ?_ ?_ <;> split <;> omega))) (by (try dsimp only) <;> first | omega | ((try simp (disch := omega) only [w32_of, w64_of, w8_of]) <;> first | omega | (split <;> omega) | (refine And.intro ?_ ?_ <;> split <;> omega))) (fun x_96 e90 => ?_)
                      have b91 : (-1000000000) ≤ x_96 ∧ x_96 ≤ 1000000000 := by rw [e90]; exact ii_kR_ey hσ_52 _
                      refine wp_bd (s_R_meetsAt (σ := σ_52) (x_0 := x_94) (y_0 := x_96) hσ_52 (by (try dsimp only) <;> first | omega | ((try simp (disch := omega) only [w32_of, w64_of, w8_of]) <;> first | omega | (split <;> omega) | (refine And.intro ?_ ?_ <;> split <;> omega))) (by (try dsimp only) <;> first | omega | ((try simp (disch := omega) only [w32_of, w64_of, w8_of]) <;> first | omega | (split <;> omega) | (refine And.intro ?_ ?_ <;> split <;> omega)))) ?_
                      rintro σ_99 _ ⟨hσ_99, f92⟩
                      exact wp_some ⟨hσ_99, (FR_le (ms := [kR_isInner, kR_meetX, kR_meetY]) f92 (by decide))⟩
                    · try simp (disch := omega) only [w32_of, w64_of, w8_of, decide_eq_true_eq, decide_eq_false_iff_not] at h86
                      exact wp_some ⟨hσ_52, (FR_refl _ _)⟩
                  rintro σ_102 _ ⟨hσ_102, f93⟩
                  exact wp_some ⟨hσ_102, (FR_le (ms := [kR_isInner, kR_meetX, kR_meetY]) f93 (by decide))⟩
              rintro σ_105 _ ⟨hσ_105, f94⟩
              exact wp_some ⟨hσ_105, (FR_le (ms := [kR_isInner, kR_meetX, kR_meetY]) f94 (by decide))⟩
          rintro σ_108 _ ⟨hσ_108, f95⟩
          exact wp_some ⟨hσ_108, (FR_le (ms := [kR_isInner, kR_meetX, kR_meetY]) f95 (by decide))⟩
      rintro σ_111 _ ⟨hσ_111, f96⟩
      exact wp_some ⟨(by (try dsimp only) <;> first | omega | ((try simp (disch := omega) only [w32_of, w64_of, w8_of]) <;> first | omega | (split <;> omega) | (refine And.intro ?_ ?_ <;> split <;> omega))), hσ_111, (FR_tr (ms := [kR_isInner, kR_meetX, kR_meetY]) (FR_le (ms := [kR_isInner, kR_meetX, kR_meetY]) f66 (by decide)) f96 (by decide) (by decide))⟩
theorem s_R_isOn {σ : SG} {i_0 : Int} {x_0 : Int} {y_0 : Int} (hσ : II σ) (qi_0 : 0 ≤ i_0 ∧ i_0 ≤ 4199) (qx_0 : (-1000000000) ≤ x_0 ∧ x_0 ≤ 1000000000) (qy_0 : (-1000000000) ≤ y_0 ∧ y_0 ≤ 1000000000) : wp_ (fR_isOn σ i_0 x_0 y_0) (fun r => True) := by
  unfold fR_isOn
  have c1 := w32_rng i_0
  refine wp_rdI (by (try dsimp only) <;> first | omega | ((try simp (disch := omega) only [w32_of, w64_of, w8_of]) <;> first | omega | (split <;> omega) | (refine And.intro ?_ ?_ <;> split <;> omega))) (by (try dsimp only) <;> first | omega | ((try simp (disch := omega) only [w32_of, w64_of, w8_of]) <;> first | omega | (split <;> omega) | (refine And.intro ?_ ?_ <;> split <;> omega))) (fun x_1 e2 => ?_)
  have b3 : (-1000000000) ≤ x_1 ∧ x_1 ≤ 1000000000 := by rw [e2]; exact ii_kR_sx hσ _
  refine wp_rdI (by (try dsimp only) <;> first | omega | ((try simp (disch := omega) only [w32_of, w64_of, w8_of]) <;> first | omega | (split <;> omega) | (refine And.intro ?_ ?_ <;> split <;> omega))) (by (try dsimp only) <;> first | omega | ((try simp (disch := omega) only [w32_of, w64_of, w8_of]) <;> first | omega | (split <;> omega) | (refine And.intro ?_ ?_ <;> split <;> omega))) (fun x_3 e4 => ?_)
  have b5 : (-1000000000) ≤ x_3 ∧ x_3 ≤ 1000000000 := by rw [e4]; exact ii_kR_sy hσ _
  refine wp_rdI (by (try dsimp only) <;> first | omega | ((try simp (disch := omega) only [w32_of, w64_of, w8_of]) <;> first | omega | (split <;> omega) | (refine And.intro ?_ ?_ <;> split <;> omega))) (by (try dsimp only) <;> first | omega | ((try simp (disch := omega) only [w32_of, w64_of, w8_of]) <;> first | omega | (split <;> omega) | (refine And.intro ?_ ?_ <;> split <;> omega))) (fun x_5 e6 => ?_)
  have b7 : (-1000000000) ≤ x_5 ∧ x_5 ≤ 1000000000 := by rw [e6]; exact ii_kR_ex hσ _
  refine wp_rdI (by (try dsimp only) <;> first | omega | ((try simp (disch := omega) only [w32_of, w64_of, w8_of]) <;> first | omega | (split <;> omega) | (refine And.intro ?_ ?_ <;> split <;> omega))) (by (try dsimp only) <;> first | omega | ((try simp (disch := omega) only [w32_of, w64_of, w8_of]) <;> first | omega | (split <;> omega) | (refine And.intro ?_ ?_ <;> split <;> omega))) (fun x_7 e8 => ?_)
  have b9 : (-1000000000) ≤ x_7 ∧ x_7 ≤ 1000000000 := by rw [e8]; exact ii_kR_ey hσ _
  have c11 := p_R_turn (ax_0 := x_1) (ay_0 := x_3) (bx_0 := x_5) (by_0 := x_7) (cx_0 := x_0) (cy_0 := y_0)
  have c12 := w32_rng (fR_turn x_1 x_3 x_5 x_7 x_0 y_0)
  refine wp_if (fun h10 => ?_) (fun h10 => ?_)
  · try simp (disch := omega) only [w32_of, w64_of, w8_of, decide_eq_true_eq, decide_eq_false_iff_not] at h10
    exact wp_some True.intro
  · try simp (disch := omega) only [w32_of, w64_of, w8_of, decide_eq_true_eq, decide_eq_false_iff_not] at h10
    refine wp_bd (P := fun r => True) ?_ ?_
    · refine wp_rdI (by (try dsimp only) <;> first | omega | ((try simp (disch := omega) only [w32_of, w64_of, w8_of]) <;> first | omega | (split <;> omega) | (refine And.intro ?_ ?_ <;> split <;> omega))) (by (try dsimp only) <;> first | omega | ((try simp (disch := omega) only [w32_of, w64_of, w8_of]) <;> first | omega | (split <;> omega) | (refine And.intro ?_ ?_ <;> split <;> omega))) (fun x_10 e13 => ?_)
      have b14 : (-1000000000) ≤ x_10 ∧ x_10 ≤ 1000000000 := by rw [e13]; exact ii_kR_sx hσ _
      refine wp_rdI (by (try dsimp only) <;> first | omega | ((try simp (disch := omega) only [w32_of, w64_of, w8_of]) <;> first | omega | (split <;> omega) | (refine And.intro ?_ ?_ <;> split <;> omega))) (by (try dsimp only) <;> first | omega | ((try simp (disch := omega) only [w32_of, w64_of, w8_of]) <;> first | omega | (split <;> omega) | (refine And.intro ?_ ?_ <;> split <;> omega))) (fun x_12 e15 => ?_)
      have b16 : (-1000000000) ≤ x_12 ∧ x_12 ≤ 1000000000 := by rw [e15]; exact ii_kR_ex hσ _
      have c18 := w64_rng x_10
      have c19 := w64_rng x_12
      refine wp_if (fun h17 => ?_) (fun h17 => ?_)
      · try simp (disch := omega) only [w32_of, w64_of, w8_of, decide_eq_true_eq, decide_eq_false_iff_not] at h17
        refine wp_rdI (by (try dsimp only) <;> first | omega | ((try simp (disch := omega) only [w32_of, w64_of, w8_of]) <;> first | omega | (split <;> omega) | (refine And.intro ?_ ?_ <;> split <;> omega))) (by (try dsimp only) <;> first | omega | ((try simp (disch := omega) only [w32_of, w64_of, w8_of]) <;> first | omega | (split <;> omega) | (refine And.intro ?_ ?_ <;> split <;> omega))) (fun x_15 e20 => ?_)
        have b21 : (-1000000000) ≤ x_15 ∧ x_15 ≤ 1000000000 := by rw [e20]; exact ii_kR_sx hσ _
        refine wp_rdI (by (try dsimp only) <;> first | omega | ((try simp (disch := omega) only [w32_of, w64_of, w8_of]) <;> first | omega | (split <;> omega) | (refine And.intro ?_ ?_ <;> split <;> omega))) (by (try dsimp only) <;> first | omega | ((try simp (disch := omega) only [w32_of, w64_of, w8_of]) <;> first | omega | (split <;> omega) | (refine And.intro ?_ ?_ <;> split <;> omega))) (fun x_17 e22 => ?_)
        have b23 : (-1000000000) ≤ x_17 ∧ x_17 ≤ 1000000000 := by rw [e22]; exact ii_kR_ex hσ _
        exact wp_some True.intro
      · try simp (disch := omega) only [w32_of, w64_of, w8_of, decide_eq_true_eq, decide_eq_false_iff_not] at h17
        refine wp_rdI (by (try dsimp only) <;> first | omega | ((try simp (disch := omega) only [w32_of, w64_of, w8_of]) <;> first | omega | (split <;> omega) | (refine And.intro ?_ ?_ <;> split <;> omega))) (by (try dsimp only) <;> first | omega | ((try simp (disch := omega) only [w32_of, w64_of, w8_of]) <;> first | omega | (split <;> omega) | (refine And.intro ?_ ?_ <;> split <;> omega))) (fun x_20 e24 => ?_)
        have b25 : (-1000000000) ≤ x_20 ∧ x_20 ≤ 1000000000 := by rw [e24]; exact ii_kR_ex hσ _
        refine wp_rdI (by (try dsimp only) <;> first | omega | ((try simp (disch := omega) only [w32_of, w64_of, w8_of]) <;> first | omega | (split <;> omega) | (refine And.intro ?_ ?_ <;> split <;> omega))) (by (try dsimp only) <;> first | omega | ((try simp (disch := omega) only [w32_of, w64_of, w8_of]) <;> first | omega | (split <;> omega) | (refine And.intro ?_ ?_ <;> split <;> omega))) (fun x_22 e26 => ?_)
        have b27 : (-1000000000) ≤ x_22 ∧ x_22 ≤ 1000000000 := by rw [e26]; exact ii_kR_sx hσ _
        exact wp_some True.intro
    rintro x_25 _ g28
    refine wp_bd (P := fun r => True) ?_ ?_
    · refine wp_rdI (by (try dsimp only) <;> first | omega | ((try simp (disch := omega) only [w32_of, w64_of, w8_of]) <;> first | omega | (split <;> omega) | (refine And.intro ?_ ?_ <;> split <;> omega))) (by (try dsimp only) <;> first | omega | ((try simp (disch := omega) only [w32_of, w64_of, w8_of]) <;> first | omega | (split <;> omega) | (refine And.intro ?_ ?_ <;> split <;> omega))) (fun x_26 e29 => ?_)
      have b30 : (-1000000000) ≤ x_26 ∧ x_26 ≤ 1000000000 := by rw [e29]; exact ii_kR_sy hσ _
      refine wp_rdI (by (try dsimp only) <;> first | omega | ((try simp (disch := omega) only [w32_of, w64_of, w8_of]) <;> first | omega | (split <;> omega) | (refine And.intro ?_ ?_ <;> split <;> omega))) (by (try dsimp only) <;> first | omega | ((try simp (disch := omega) only [w32_of, w64_of, w8_of]) <;> first | omega | (split <;> omega) | (refine And.intro ?_ ?_ <;> split <;> omega))) (fun x_28 e31 => ?_)
      have b32 : (-1000000000) ≤ x_28 ∧ x_28 ≤ 1000000000 := by rw [e31]; exact ii_kR_ey hσ _
      have c34 := w64_rng x_26
      have c35 := w64_rng x_28
      refine wp_if (fun h33 => ?_) (fun h33 => ?_)
      · try simp (disch := omega) only [w32_of, w64_of, w8_of, decide_eq_true_eq, decide_eq_false_iff_not] at h33
        refine wp_rdI (by (try dsimp only) <;> first | omega | ((try simp (disch := omega) only [w32_of, w64_of, w8_of]) <;> first | omega | (split <;> omega) | (refine And.intro ?_ ?_ <;> split <;> omega))) (by (try dsimp only) <;> first | omega | ((try simp (disch := omega) only [w32_of, w64_of, w8_of]) <;> first | omega | (split <;> omega) | (refine And.intro ?_ ?_ <;> split <;> omega))) (fun x_31 e36 => ?_)
        have b37 : (-1000000000) ≤ x_31 ∧ x_31 ≤ 1000000000 := by rw [e36]; exact ii_kR_sy hσ _
        refine wp_rdI (by (try dsimp only) <;> first | omega | ((try simp (disch := omega) only [w32_of, w64_of, w8_of]) <;> first | omega | (split <;> omega) | (refine And.intro ?_ ?_ <;> split <;> omega))) (by (try dsimp only) <;> first | omega | ((try simp (disch := omega) only [w32_of, w64_of, w8_of]) <;> first | omega | (split <;> omega) | (refine And.intro ?_ ?_ <;> split <;> omega))) (fun x_33 e38 => ?_)
        have b39 : (-1000000000) ≤ x_33 ∧ x_33 ≤ 1000000000 := by rw [e38]; exact ii_kR_ey hσ _
        exact wp_some True.intro
      · try simp (disch := omega) only [w32_of, w64_of, w8_of, decide_eq_true_eq, decide_eq_false_iff_not] at h33
        refine wp_rdI (by (try dsimp only) <;> first | omega | ((try simp (disch := omega) only [w32_of, w64_of, w8_of]) <;> first | omega | (split <;> omega) | (refine And.intro ?_ ?_ <;> split <;> omega))) (by (try dsimp only) <;> first | omega | ((try simp (disch := omega) only [w32_of, w64_of, w8_of]) <;> first | omega | (split <;> omega) | (refine And.intro ?_ ?_ <;> split <;> omega))) (fun x_36 e40 => ?_)
        have b41 : (-1000000000) ≤ x_36 ∧ x_36 ≤ 1000000000 := by rw [e40]; exact ii_kR_ey hσ _
        refine wp_rdI (by (try dsimp only) <;> first | omega | ((try simp (disch := omega) only [w32_of, w64_of, w8_of]) <;> first | omega | (split <;> omega) | (refine And.intro ?_ ?_ <;> split <;> omega))) (by (try dsimp only) <;> first | omega | ((try simp (disch := omega) only [w32_of, w64_of, w8_of]) <;> first | omega | (split <;> omega) | (refine And.intro ?_ ?_ <;> split <;> omega))) (fun x_38 e42 => ?_)
        have b43 : (-1000000000) ≤ x_38 ∧ x_38 ≤ 1000000000 := by rw [e42]; exact ii_kR_sy hσ _
        exact wp_some True.intro
    rintro x_41 _ g44
    exact wp_some True.intro
theorem s_R_begins {σ : SG} {i_0 : Int} (hσ : II σ) (qi_0 : 0 ≤ i_0 ∧ i_0 ≤ 4199) : wp_ (fR_begins σ i_0) (fun r => True) := by
  unfold fR_begins
  refine wp_bd (P := fun r => True) ?_ ?_
  · have c1 := w32_rng i_0
    refine wp_rdI (by (try dsimp only) <;> first | omega | ((try simp (disch := omega) only [w32_of, w64_of, w8_of]) <;> first | omega | (split <;> omega) | (refine And.intro ?_ ?_ <;> split <;> omega))) (by (try dsimp only) <;> first | omega | ((try simp (disch := omega) only [w32_of, w64_of, w8_of]) <;> first | omega | (split <;> omega) | (refine And.intro ?_ ?_ <;> split <;> omega))) (fun x_1 e2 => ?_)
    have b3 : (-1000000000) ≤ x_1 ∧ x_1 ≤ 1000000000 := by rw [e2]; exact ii_kR_sx hσ _
    have c5 := w64_rng x_1
    have c6 := ii_kR_meetX hσ 0
    have c7 := w64_rng (σ kR_meetX 0)
    refine wp_if (fun h4 => ?_) (fun h4 => ?_)
    · try simp (disch := omega) only [w32_of, w64_of, w8_of, decide_eq_true_eq, decide_eq_false_iff_not] at h4
      refine wp_rdI (by (try dsimp only) <;> first | omega | ((try simp (disch := omega) only [w32_of, w64_of, w8_of]) <;> first | omega | (split <;> omega) | (refine And.intro ?_ ?_ <;> split <;> omega))) (by (try dsimp only) <;> first | omega | ((try simp (disch := omega) only [w32_of, w64_of, w8_of]) <;> first | omega | (split <;> omega) | (refine And.intro ?_ ?_ <;> split <;> omega))) (fun x_4 e8 => ?_)
      have b9 : (-1000000000) ≤ x_4 ∧ x_4 ≤ 1000000000 := by rw [e8]; exact ii_kR_sy hσ _
      have c11 := w64_rng x_4
      have c12 := ii_kR_meetY hσ 0
      have c13 := w64_rng (σ kR_meetY 0)
      refine wp_if (fun h10 => ?_) (fun h10 => ?_)
      · try simp (disch := omega) only [w32_of, w64_of, w8_of, decide_eq_true_eq, decide_eq_false_iff_not] at h10
        exact wp_some True.intro
      · try simp (disch := omega) only [w32_of, w64_of, w8_of, decide_eq_true_eq, decide_eq_false_iff_not] at h10
        exact wp_some True.intro
    · try simp (disch := omega) only [w32_of, w64_of, w8_of, decide_eq_true_eq, decide_eq_false_iff_not] at h4
      exact wp_some True.intro
  rintro x_10 _ g14
  exact wp_some True.intro
theorem s_R_forgetPlace {σ : SG} (hσ : II σ) : wp_ (fR_forgetPlace σ) (fun r => II r ∧ FR [kR_place] σ r) := by
  unfold fR_forgetPlace
  refine wp_bd (P := fun r => (7 ≤ r.1 ∧ r.1 ≤ 7) ∧ II r.2 ∧ FR [kR_place] σ r.2) ?_ ?_
  · refine wp_whl (fun s => (0 ≤ s.1 ∧ s.1 ≤ 7) ∧ II s.2 ∧ FR [kR_place] σ s.2) (fun s => (8 - s.1).toNat) ⟨(by (try dsimp only) <;> first | omega | ((try simp (disch := omega) only [w32_of, w64_of, w8_of]) <;> first | omega | (split <;> omega) | (refine And.intro ?_ ?_ <;> split <;> omega))), hσ, (FR_refl _ _)⟩ ?_
    rintro ⟨k_1, σ_2⟩ y3
    dsimp only at y3 ⊢
    obtain ⟨g1, hσ_2, f2⟩ := y3
    have c5 := w32_rng k_1
    refine wp_if (fun h4 => ?_) (fun h4 => ?_)
    · try simp (disch := omega) only [w32_of, w64_of, w8_of, decide_eq_true_eq, decide_eq_false_iff_not] at h4
      refine wp_waI hσ_2 b_kR_place (by (try dsimp only) <;> first | omega | ((try simp (disch := omega) only [w32_of, w64_of, w8_of]) <;> first | omega | (split <;> omega) | (refine And.intro ?_ ?_ <;> split <;> omega))) (by (try dsimp only) <;> first | omega | ((try simp (disch := omega) only [w32_of, w64_of, w8_of]) <;> first | omega | (split <;> omega) | (refine And.intro ?_ ?_ <;> split <;> omega))) (by (try dsimp only) <;> first | omega | ((try simp (disch := omega) only [w32_of, w64_of, w8_of]) <;> first | omega | (split <;> omega) | (refine And.intro ?_ ?_ <;> split <;> omega))) (fun σ_11 hσ_11 e6 => ?_)
      have f7 := FR_sg e6
      exact wp_some ⟨fun _ e => by cases e; exact ⟨⟨(by (try dsimp only) <;> first | omega | ((try simp (disch := omega) only [w32_of, w64_of, w8_of]) <;> first | omega | (split <;> omega) | (refine And.intro ?_ ?_ <;> split <;> omega))), hσ_11, (FR_tr (ms := [kR_place]) (FR_le (ms := [kR_place]) f2 (by decide)) f7 (by decide) (by decide))⟩, by (try dsimp only) <;> first | omega | ((try simp (disch := omega) only [w32_of, w64_of, w8_of]) <;> first | omega | (split <;> omega) | (refine And.intro ?_ ?_ <;> split <;> omega))⟩, fun _ e => (by cases e)⟩
    · try simp (disch := omega) only [w32_of, w64_of, w8_of, decide_eq_true_eq, decide_eq_false_iff_not] at h4
      exact wp_some ⟨fun _ e => (by cases e), fun _ e => by cases e; exact ⟨(by (try dsimp only) <;> first | omega | ((try simp (disch := omega) only [w32_of, w64_of, w8_of]) <;> first | omega | (split <;> omega) | (refine And.intro ?_ ?_ <;> split <;> omega))), hσ_2, (FR_le (ms := [kR_place]) f2 (by decide))⟩⟩
  rintro ⟨k_15, σ_16⟩ _ y10
  dsimp only at y10 ⊢
  obtain ⟨g8, hσ_16, f9⟩ := y10
  exact wp_some ⟨hσ_16, (FR_le (ms := [kR_place]) f9 (by decide))⟩
theorem s_R_place {σ : SG} {what_0 : Int} (hσ : II σ) (qwhat_0 : (-2147483648) ≤ what_0 ∧ what_0 ≤ 2147483647) : wp_ (fR_place σ what_0) (fun r => ((-1) ≤ r.1 ∧ r.1 ≤ 4096) ∧ II r.2 ∧ FR [kR_thrown] σ r.2) := by
  unfold fR_place
  refine wp_wfI hσ b_kR_thrown (by (try dsimp only) <;> first | omega | ((try simp (disch := omega) only [w32_of, w64_of, w8_of]) <;> first | omega | (split <;> omega) | (refine And.intro ?_ ?_ <;> split <;> omega))) (fun σ_1 hσ_1 e1 => ?_)
  have f2 := FR_sg e1
  have c3 := w32_rng what_0
  refine wp_bd (s_R_fails (σ := σ_1) (is_0 := (decide (¬ ((fR_in (w32 what_0) 0 6) = true)))) (which_0 := 1) hσ_1 (by (try dsimp only) <;> first | omega | ((try simp (disch := omega) only [w32_of, w64_of, w8_of]) <;> first | omega | (split <;> omega) | (refine And.intro ?_ ?_ <;> split <;> omega)))) ?_
  rintro ⟨x_5, σ_4⟩ _ y6
  dsimp only at y6 ⊢
  obtain ⟨g4, hσ_4, f5⟩ := y6
  refine wp_if (fun h7 => ?_) (fun h7 => ?_)
  · try simp (disch := omega) only [w32_of, w64_of, w8_of, decide_eq_true_eq, decide_eq_false_iff_not] at h7
    exact wp_some ⟨(by (try dsimp only) <;> first | omega | ((try simp (disch := omega) only [w32_of, w64_of, w8_of]) <;> first | omega | (split <;> omega) | (refine And.intro ?_ ?_ <;> split <;> omega))), hσ_4, (FR_tr (ms := [kR_thrown]) (FR_le (ms := [kR_thrown]) f2 (by decide)) f5 (by decide) (by decide))⟩
  · have k8 := g4 (Bool.eq_false_iff.mpr h7)
    try simp (disch := omega) only [fR_isSlot, fR_in, decide_eq_false_iff_not, decide_eq_true_eq, Decidable.not_not, not_or, w32_of, w64_of] at k8
    try simp (disch := omega) only [w32_of, w64_of, w8_of, decide_eq_true_eq, decide_eq_false_iff_not] at h7
    refine wp_rdI (by (try dsimp only) <;> first | omega | ((try simp (disch := omega) only [w32_of, w64_of, w8_of]) <;> first | omega | (split <;> omega) | (refine And.intro ?_ ?_ <;> split <;> omega))) (by (try dsimp only) <;> first | omega | ((try simp (disch := omega) only [w32_of, w64_of, w8_of]) <;> first | omega | (split <;> omega) | (refine And.intro ?_ ?_ <;> split <;> omega))) (fun x_7 e9 => ?_)
    have b10 : (-1) ≤ x_7 ∧ x_7 ≤ 4096 := by rw [e9]; exact ii_kR_place hσ_4 _
    exact wp_some ⟨(by (try dsimp only) <;> first | omega | ((try simp (disch := omega) only [w32_of, w64_of, w8_of]) <;> first | omega | (split <;> omega) | (refine And.intro ?_ ?_ <;> split <;> omega))), hσ_4, (FR_tr (ms := [kR_thrown]) (FR_le (ms := [kR_thrown]) f2 (by decide)) f5 (by decide) (by decide))⟩
theorem s_R_isNear {σ : SG} {slot_0 : Int} (hσ : II σ) (qslot_0 : 0 ≤ slot_0 ∧ slot_0 ≤ 31) : wp_ (fR_isNear σ slot_0) (fun r => True) := by
  unfold fR_isNear
  refine wp_bd (P := fun r => True ∧ (0 ≤ r.2 ∧ r.2 ≤ 65536)) ?_ ?_
  · refine wp_whl (fun s => True ∧ (0 ≤ s.2 ∧ s.2 ≤ 65536)) (fun s => (65537 - s.2).toNat) ⟨True.intro, (by (try dsimp only) <;> first | omega | ((try simp (disch := omega) only [w32_of, w64_of, w8_of]) <;> first | omega | (split <;> omega) | (refine And.intro ?_ ?_ <;> split <;> omega)))⟩ ?_
    rintro ⟨near_1, k_2⟩ y3
    dsimp only at y3 ⊢
    obtain ⟨g1, g2⟩ := y3
    have c4 := w32_rng slot_0
    refine wp_rdI (by (try dsimp only) <;> first | omega | ((try simp (disch := omega) only [w32_of, w64_of, w8_of]) <;> first | omega | (split <;> omega) | (refine And.intro ?_ ?_ <;> split <;> omega))) (by (try dsimp only) <;> first | omega | ((try simp (disch := omega) only [w32_of, w64_of, w8_of]) <;> first | omega | (split <;> omega) | (refine And.intro ?_ ?_ <;> split <;> omega))) (fun x_10 e5 => ?_)
    have b6 : 0 ≤ x_10 ∧ x_10 ≤ 2048 := by rw [e5]; exact ii_kR_pointMany hσ _
    have c8 := w32_rng k_2
    have c9 := w32_rng ((2048 * slot_0) + x_10)
    refine wp_if (fun h7 => ?_) (fun h7 => ?_)
    · try simp (disch := omega) only [w32_of, w64_of, w8_of, decide_eq_true_eq, decide_eq_false_iff_not] at h7
      refine wp_bd (P := fun r => True) ?_ ?_
      · refine wp_if (fun h10 => ?_) (fun h10 => ?_)
        · try simp (disch := omega) only [w32_of, w64_of, w8_of, decide_eq_true_eq, decide_eq_false_iff_not] at h10
          refine wp_rdI (by (try dsimp only) <;> first | omega | ((try simp (disch := omega) only [w32_of, w64_of, w8_of]) <;> first | omega | (split <;> omega) | (refine And.intro ?_ ?_ <;> split <;> omega))) (by (try dsimp only) <;> first | omega | ((try simp (disch := omega) only [w32_of, w64_of, w8_of]) <;> first | omega | (split <;> omega) | (refine And.intro ?_ ?_ <;> split <;> omega))) (fun x_14 e11 => ?_)
          have b12 : (-1000000000) ≤ x_14 ∧ x_14 ≤ 1000000000 := by rw [e11]; exact ii_kR_xs hσ _
          have c14 := w32_rng x_14
          refine wp_if (fun h13 => ?_) (fun h13 => ?_)
          · try simp (disch := omega) only [w32_of, w64_of, w8_of, decide_eq_true_eq, decide_eq_false_iff_not, fR_in] at h13
            refine wp_rdI (by (try dsimp only) <;> first | omega | ((try simp (disch := omega) only [w32_of, w64_of, w8_of]) <;> first | omega | (split <;> omega) | (refine And.intro ?_ ?_ <;> split <;> omega))) (by (try dsimp only) <;> first | omega | ((try simp (disch := omega) only [w32_of, w64_of, w8_of]) <;> first | omega | (split <;> omega) | (refine And.intro ?_ ?_ <;> split <;> omega))) (fun x_17 e15 => ?_)
            have b16 : (-1000000000) ≤ x_17 ∧ x_17 ≤ 1000000000 := by rw [e15]; exact ii_kR_ys hσ _
            have c18 := w32_rng x_17
            refine wp_if (fun h17 => ?_) (fun h17 => ?_)
            · try simp (disch := omega) only [w32_of, w64_of, w8_of, decide_eq_true_eq, decide_eq_false_iff_not, fR_in] at h17
              exact wp_some True.intro
            · try simp (disch := omega) only [w32_of, w64_of, w8_of, decide_eq_true_eq, decide_eq_false_iff_not, fR_in] at h17
              exact wp_some True.intro
          · try simp (disch := omega) only [w32_of, w64_of, w8_of, decide_eq_true_eq, decide_eq_false_iff_not, fR_in] at h13
            exact wp_some True.intro
        · try simp (disch := omega) only [w32_of, w64_of, w8_of, decide_eq_true_eq, decide_eq_false_iff_not] at h10
          exact wp_some True.intro
      rintro x_24 _ g19
      exact wp_some ⟨fun _ e => by cases e; exact ⟨⟨True.intro, (by (try dsimp only) <;> first | omega | ((try simp (disch := omega) only [w32_of, w64_of, w8_of]) <;> first | omega | (split <;> omega) | (refine And.intro ?_ ?_ <;> split <;> omega)))⟩, by (try dsimp only) <;> first | omega | ((try simp (disch := omega) only [w32_of, w64_of, w8_of]) <;> first | omega | (split <;> omega) | (refine And.intro ?_ ?_ <;> split <;> omega))⟩, fun _ e => (by cases e)⟩
    · try simp (disch := omega) only [w32_of, w64_of, w8_of, decide_eq_true_eq, decide_eq_false_iff_not] at h7
      exact wp_some ⟨fun _ e => (by cases e), fun _ e => by cases e; exact ⟨True.intro, (by (try dsimp only) <;> first | omega | ((try simp (disch := omega) only [w32_of, w64_of, w8_of]) <;> first | omega | (split <;> omega) | (refine And.intro ?_ ?_ <;> split <;> omega)))⟩⟩
  rintro ⟨near_31, k_32⟩ _ y22
  dsimp only at y22 ⊢
  obtain ⟨g20, g21⟩ := y22
  exact wp_some True.intro
theorem s_R_isLaid {σ : SG} {slot_0 : Int} (hσ : II σ) (qslot_0 : 0 ≤ slot_0 ∧ slot_0 ≤ 31) : wp_ (fR_isLaid σ slot_0) (fun r => True) := by
  unfold fR_isLaid
  have c1 := w32_rng (2048 * slot_0)
  refine wp_rdI (by (try dsimp only) <;> first | omega | ((try simp (disch := omega) only [w32_of, w64_of, w8_of]) <;> first | omega | (split <;> omega) | (refine And.intro ?_ ?_ <;> split <;> omega))) (by (try dsimp only) <;> first | omega | ((try simp (disch := omega) only [w32_of, w64_of, w8_of]) <;> first | omega | (split <;> omega) | (refine And.intro ?_ ?_ <;> split <;> omega))) (fun x_1 e2 => ?_)
  refine wp_bd (P := fun r => True) ?_ ?_
  · have c5 := w32_rng x_1
    refine wp_if (fun h4 => ?_) (fun h4 => ?_)
    · try simp (disch := omega) only [w32_of, w64_of, w8_of, decide_eq_true_eq, decide_eq_false_iff_not] at h4
      refine wp_bd (s_R_isNear (σ := σ) (slot_0 := slot_0) hσ (by (try dsimp only) <;> first | omega | ((try simp (disch := omega) only [w32_of, w64_of, w8_of]) <;> first | omega | (split <;> omega) | (refine And.intro ?_ ?_ <;> split <;> omega)))) ?_
      rintro x_5 _ g6
      refine wp_if (fun h7 => ?_) (fun h7 => ?_)
      · try simp (disch := omega) only [w32_of, w64_of, w8_of, decide_eq_true_eq, decide_eq_false_iff_not] at h7
        exact wp_some True.intro
      · try simp (disch := omega) only [w32_of, w64_of, w8_of, decide_eq_true_eq, decide_eq_false_iff_not] at h7
        exact wp_some True.intro
    · try simp (disch := omega) only [w32_of, w64_of, w8_of, decide_eq_true_eq, decide_eq_false_iff_not] at h4
      refine wp_if (fun h8 => ?_) (fun h8 => ?_)
      · try simp (disch := omega) only [w32_of, w64_of, w8_of, decide_eq_true_eq, decide_eq_false_iff_not] at h8
        refine wp_bd (s_R_isNear (σ := σ) (slot_0 := slot_0) hσ (by (try dsimp only) <;> first | omega | ((try simp (disch := omega) only [w32_of, w64_of, w8_of]) <;> first | omega | (split <;> omega) | (refine And.intro ?_ ?_ <;> split <;> omega)))) ?_
        rintro x_11 _ g9
        refine wp_if (fun h10 => ?_) (fun h10 => ?_)
        · try simp (disch := omega) only [w32_of, w64_of, w8_of, decide_eq_true_eq, decide_eq_false_iff_not] at h10
          exact wp_some True.intro
        · try simp (disch := omega) only [w32_of, w64_of, w8_of, decide_eq_true_eq, decide_eq_false_iff_not] at h10
          exact wp_some True.intro
      · try simp (disch := omega) only [w32_of, w64_of, w8_of, decide_eq_true_eq, decide_eq_false_iff_not] at h8
        exact wp_some True.intro
  rintro x_16 _ g11
  exact wp_some True.intro
theorem s_R_rounded {a_0 : Int} {d_0 : Int} {num_0 : Int} {den_0 : Int} (qa_0 : (-1000000000) ≤ a_0 ∧ a_0 ≤ 1000000000) (qd_0 : (-2000000000) ≤ d_0 ∧ d_0 ≤ 2000000000) (qden_0 : 0 ≤ den_0 ∧ den_0 ≤ 9223372036854775808) : wp_ (fR_rounded a_0 d_0 num_0 den_0) (fun r => True) := by
  unfold fR_rounded
  refine wp_bd (P := fun r => True ∧ True ∧ ((-1) ≤ r.2.2 ∧ r.2.2 ≤ (-1))) ?_ ?_
  · refine wp_whl (fun s => True ∧ True ∧ ((-1) ≤ s.2.2 ∧ s.2.2 ≤ 30)) (fun s => (s.2.2 - (-2)).toNat) ⟨True.intro, True.intro, (by (try dsimp only) <;> first | omega | ((try simp (disch := omega) only [w32_of, w64_of, w8_of]) <;> first | omega | (split <;> omega) | (refine And.intro ?_ ?_ <;> split <;> omega)))⟩ ?_
    rintro ⟨q_2, r_3, k_4⟩ y4
    dsimp only at y4 ⊢
    obtain ⟨g1, g2, g3⟩ := y4
    have c6 := w32_rng k_4
    refine wp_if (fun h5 => ?_) (fun h5 => ?_)
    · try simp (disch := omega) only [w32_of, w64_of, w8_of, decide_eq_true_eq, decide_eq_false_iff_not] at h5
      refine wp_bd (P := fun r => True ∧ True) ?_ ?_
      · have c8 := w64_rng den_0
        have c9 := w64_rng (2 * r_3)
        refine wp_if (fun h7 => ?_) (fun h7 => ?_)
        · try simp (disch := omega) only [w32_of, w64_of, w8_of, decide_eq_true_eq, decide_eq_false_iff_not] at h7
          exact wp_some ⟨True.intro, True.intro⟩
        · try simp (disch := omega) only [w32_of, w64_of, w8_of, decide_eq_true_eq, decide_eq_false_iff_not] at h7
          exact wp_some ⟨True.intro, True.intro⟩
      rintro ⟨q_20, r_21⟩ _ y12
      dsimp only at y12 ⊢
      obtain ⟨g10, g11⟩ := y12
      have c14 := w64_rng d_0
      have c15 := q_lsr_rng (if ((w64 d_0) < 0) then (-d_0) else d_0) k_4
      have c16 := q_lan_bd (q_lsr (if ((w64 d_0) < 0) then (-d_0) else d_0) k_4) (m := 1) (by decide) (by decide)
      try simp (disch := omega) only [w32_of, w64_of, w8_of] at c16
      have c17 := w64_rng (q_lan (q_lsr (if ((w64 d_0) < 0) then (-d_0) else d_0) k_4) 1)
      refine wp_if (fun h13 => ?_) (fun h13 => ?_)
      · try simp (disch := omega) only [w32_of, w64_of, w8_of, decide_eq_true_eq, decide_eq_false_iff_not] at h13
        exact wp_some ⟨fun _ e => by cases e; exact ⟨⟨True.intro, True.intro, (by (try dsimp only) <;> first | omega | ((try simp (disch := omega) only [w32_of, w64_of, w8_of]) <;> first | omega | (split <;> omega) | (refine And.intro ?_ ?_ <;> split <;> omega)))⟩, by (try dsimp only) <;> first | omega | ((try simp (disch := omega) only [w32_of, w64_of, w8_of]) <;> first | omega | (split <;> omega) | (refine And.intro ?_ ?_ <;> split <;> omega))⟩, fun _ e => (by cases e)⟩
      · try simp (disch := omega) only [w32_of, w64_of, w8_of, decide_eq_true_eq, decide_eq_false_iff_not] at h13
        refine wp_bd (P := fun r => True ∧ True) ?_ ?_
        · have c19 := w64_rng den_0
          have c20 := w64_rng (r_21 + num_0)
          refine wp_if (fun h18 => ?_) (fun h18 => ?_)
          · try simp (disch := omega) only [w32_of, w64_of, w8_of, decide_eq_true_eq, decide_eq_false_iff_not] at h18
            exact wp_some ⟨True.intro, True.intro⟩
          · try simp (disch := omega) only [w32_of, w64_of, w8_of, decide_eq_true_eq, decide_eq_false_iff_not] at h18
            exact wp_some ⟨True.intro, True.intro⟩
        rintro ⟨q_31, r_32⟩ _ y23
        dsimp only at y23 ⊢
        obtain ⟨g21, g22⟩ := y23
        exact wp_some ⟨fun _ e => by cases e; exact ⟨⟨True.intro, True.intro, (by (try dsimp only) <;> first | omega | ((try simp (disch := omega) only [w32_of, w64_of, w8_of]) <;> first | omega | (split <;> omega) | (refine And.intro ?_ ?_ <;> split <;> omega)))⟩, by (try dsimp only) <;> first | omega | ((try simp (disch := omega) only [w32_of, w64_of, w8_of]) <;> first | omega | (split <;> omega) | (refine And.intro ?_ ?_ <;> split <;> omega))⟩, fun _ e => (by cases e)⟩
    · try simp (disch := omega) only [w32_of, w64_of, w8_of, decide_eq_true_eq, decide_eq_false_iff_not] at h5
      exact wp_some ⟨fun _ e => (by cases e), fun _ e => by cases e; exact ⟨True.intro, True.intro, (by (try dsimp only) <;> first | omega | ((try simp (disch := omega) only [w32_of, w64_of, w8_of]) <;> first | omega | (split <;> omega) | (refine And.intro ?_ ?_ <;> split <;> omega)))⟩⟩
  rintro ⟨q_37, r_38, k_39⟩ _ y27
  dsimp only at y27 ⊢
  obtain ⟨g24, g25, g26⟩ := y27
  have c29 := w64_rng d_0
  refine wp_if (fun h28 => ?_) (fun h28 => ?_)
  · try simp (disch := omega) only [w32_of, w64_of, w8_of, decide_eq_true_eq, decide_eq_false_iff_not] at h28
    have c30 := w64_rng den_0
    have c31 := w64_rng (2 * r_38)
    exact wp_some True.intro
  · try simp (disch := omega) only [w32_of, w64_of, w8_of, decide_eq_true_eq, decide_eq_false_iff_not] at h28
    have c32 := w64_rng (2 * r_38)
    have c33 := w64_rng den_0
    exact wp_some True.intro
theorem s_R_cuts {σ : SG} {from_0 : Int} {d_0 : Int} {low_0 : Int} {high_0 : Int} (hσ : II σ) (qfrom_0 : (-2000000000) ≤ from_0 ∧ from_0 ≤ 2000000000) (qd_0 : (-4000000000) ≤ d_0 ∧ d_0 ≤ 4000000000) (qlow_0 : (-2000000001) ≤ low_0 ∧ low_0 ≤ 1999999999) (qhigh_0 : (-1999999999) ≤ high_0 ∧ high_0 ≤ 2000000001) : wp_ (fR_cuts σ from_0 d_0 low_0 high_0) (fun r => True ∧ II r.2 ∧ FR [kR_highDen, kR_highNum, kR_highOpen, kR_lowDen, kR_lowNum, kR_lowOpen] σ r.2) := by
  unfold fR_cuts
  have c2 := w64_rng d_0
  refine wp_if (fun h1 => ?_) (fun h1 => ?_)
  · try simp (disch := omega) only [w32_of, w64_of, w8_of, decide_eq_true_eq, decide_eq_false_iff_not] at h1
    have c3 := w64_rng low_0
    have c4 := w64_rng from_0
    have c5 := w64_rng high_0
    exact wp_some ⟨True.intro, hσ, (FR_refl _ _)⟩
  · try simp (disch := omega) only [w32_of, w64_of, w8_of, decide_eq_true_eq, decide_eq_false_iff_not] at h1
    refine wp_lt (fun x_7 e6 => ?_)
    refine wp_lt (fun x_9 e7 => ?_)
    have c9 := ii_kR_lowDen hσ 0
    have c10 := ii_kR_lowNum hσ 0
    refine wp_lt (fun x_11 e8 => ?_)
    refine wp_bd (P := fun r => II r ∧ FR [kR_lowDen, kR_lowNum, kR_lowOpen] σ r) ?_ ?_
    · have c12 := w64_rng x_11
      refine wp_if (fun h11 => ?_) (fun h11 => ?_)
      · try simp (disch := omega) only [w32_of, w64_of, w8_of, decide_eq_true_eq, decide_eq_false_iff_not] at h11
        refine wp_wfI hσ b_kR_lowNum (by (try dsimp only) <;> first | omega | ((try simp (disch := omega) only [w32_of, w64_of, w8_of]) <;> first | omega | (split <;> omega) | (refine And.intro ?_ ?_ <;> split <;> omega))) (fun σ_17 hσ_17 e13 => ?_)
        have f14 := FR_sg e13
        refine wp_wfI hσ_17 b_kR_lowDen (by (try dsimp only) <;> first | omega | ((try simp (disch := omega) only [w32_of, w64_of, w8_of]) <;> first | omega | (split <;> omega) | (refine And.intro ?_ ?_ <;> split <;> omega))) (fun σ_18 hσ_18 e15 => ?_)
        have f16 := FR_sg e15
        have c17 := bz_bd (decide ((w64 d_0) < 0))
        refine wp_wfI hσ_18 b_kR_lowOpen (by (try dsimp only) <;> first | omega | ((try simp (disch := omega) only [w32_of, w64_of, w8_of]) <;> first | omega | (split <;> omega) | (refine And.intro ?_ ?_ <;> split <;> omega))) (fun σ_19 hσ_19 e18 => ?_)
        have f19 := FR_sg e18
        exact wp_some ⟨hσ_19, (FR_tr (ms := [kR_lowDen, kR_lowNum, kR_lowOpen]) (FR_tr (ms := [kR_lowDen, kR_lowNum, kR_lowOpen]) (FR_le (ms := [kR_lowDen, kR_lowNum, kR_lowOpen]) f14 (by decide)) f16 (by decide) (by decide)) f19 (by decide) (by decide))⟩
      · try simp (disch := omega) only [w32_of, w64_of, w8_of, decide_eq_true_eq, decide_eq_false_iff_not] at h11
        refine wp_bd (P := fun r => II r ∧ FR [kR_lowOpen] σ r) ?_ ?_
        · refine wp_if (fun h20 => ?_) (fun h20 => ?_)
          · try simp (disch := omega) only [w32_of, w64_of, w8_of, decide_eq_true_eq, decide_eq_false_iff_not] at h20
            have c21 := ii_kR_lowOpen hσ 0
            have c22 := bz_bd (decide (((nz (σ kR_lowOpen 0)) = true) ∨ ((decide ((w64 d_0) < 0)) = true)))
            refine wp_wfI hσ b_kR_lowOpen (by (try dsimp only) <;> first | omega | ((try simp (disch := omega) only [w32_of, w64_of, w8_of]) <;> first | omega | (split <;> omega) | (refine And.intro ?_ ?_ <;> split <;> omega))) (fun σ_27 hσ_27 e23 => ?_)
            have f24 := FR_sg e23
            exact wp_some ⟨hσ_27, (FR_le (ms := [kR_lowOpen]) f24 (by decide))⟩
          · try simp (disch := omega) only [w32_of, w64_of, w8_of, decide_eq_true_eq, decide_eq_false_iff_not] at h20
            exact wp_some ⟨hσ, (FR_refl _ _)⟩
        rintro σ_32 _ ⟨hσ_32, f25⟩
        exact wp_some ⟨hσ_32, (FR_le (ms := [kR_lowDen, kR_lowNum, kR_lowOpen]) f25 (by decide))⟩
    rintro σ_35 _ ⟨hσ_35, f26⟩
    have c28 := ii_kR_highDen hσ_35 0
    have c29 := FR_at f26 (c := kR_highDen) (by decide) 0
    have c30 := ii_kR_highDen hσ 0
    have c31 := ii_kR_highNum hσ_35 0
    have c32 := FR_at f26 (c := kR_highNum) (by decide) 0
    have c33 := ii_kR_highNum hσ 0
    refine wp_lt (fun x_36 e27 => ?_)
    refine wp_bd (P := fun r => II r ∧ FR [kR_highDen, kR_highNum, kR_highOpen] σ_35 r) ?_ ?_
    · have c35 := w64_rng x_36
      refine wp_if (fun h34 => ?_) (fun h34 => ?_)
      · try simp (disch := omega) only [w32_of, w64_of, w8_of, decide_eq_true_eq, decide_eq_false_iff_not] at h34
        refine wp_wfI hσ_35 b_kR_highNum (by (try dsimp only) <;> first | omega | ((try simp (disch := omega) only [w32_of, w64_of, w8_of]) <;> first | omega | (split <;> omega) | (refine And.intro ?_ ?_ <;> split <;> omega))) (fun σ_42 hσ_42 e36 => ?_)
        have f37 := FR_sg e36
        refine wp_wfI hσ_42 b_kR_highDen (by (try dsimp only) <;> first | omega | ((try simp (disch := omega) only [w32_of, w64_of, w8_of]) <;> first | omega | (split <;> omega) | (refine And.intro ?_ ?_ <;> split <;> omega))) (fun σ_43 hσ_43 e38 => ?_)
        have f39 := FR_sg e38
        have c40 := bz_bd (decide (¬ ((decide ((w64 d_0) < 0)) = true)))
        refine wp_wfI hσ_43 b_kR_highOpen (by (try dsimp only) <;> first | omega | ((try simp (disch := omega) only [w32_of, w64_of, w8_of]) <;> first | omega | (split <;> omega) | (refine And.intro ?_ ?_ <;> split <;> omega))) (fun σ_45 hσ_45 e41 => ?_)
        have f42 := FR_sg e41
        exact wp_some ⟨hσ_45, (FR_tr (ms := [kR_highDen, kR_highNum, kR_highOpen]) (FR_tr (ms := [kR_highDen, kR_highNum, kR_highOpen]) (FR_le (ms := [kR_highDen, kR_highNum, kR_highOpen]) f37 (by decide)) f39 (by decide) (by decide)) f42 (by decide) (by decide))⟩
      · try simp (disch := omega) only [w32_of, w64_of, w8_of, decide_eq_true_eq, decide_eq_false_iff_not] at h34
        refine wp_bd (P := fun r => II r ∧ FR [kR_highOpen] σ_35 r) ?_ ?_
        · refine wp_if (fun h43 => ?_) (fun h43 => ?_)
          · try simp (disch := omega) only [w32_of, w64_of, w8_of, decide_eq_true_eq, decide_eq_false_iff_not] at h43
            have c44 := ii_kR_highOpen hσ_35 0
            have c45 := FR_at f26 (c := kR_highOpen) (by decide) 0
            have c46 := ii_kR_highOpen hσ 0
            have c47 := bz_bd (decide (((nz (σ_35 kR_highOpen 0)) = true) ∨ (¬ ((decide ((w64 d_0) < 0)) = true))))
            refine wp_wfI hσ_35 b_kR_highOpen (by (try dsimp only) <;> first | omega | ((try simp (disch := omega) only [w32_of, w64_of, w8_of]) <;> first | omega | (split <;> omega) | (refine And.intro ?_ ?_ <;> split <;> omega))) (fun σ_54 hσ_54 e48 => ?_)
            have f49 := FR_sg e48
            exact wp_some ⟨hσ_54, (FR_le (ms := [kR_highOpen]) f49 (by decide))⟩
          · try simp (disch := omega) only [w32_of, w64_of, w8_of, decide_eq_true_eq, decide_eq_false_iff_not] at h43
            exact wp_some ⟨hσ_35, (FR_refl _ _)⟩
        rintro σ_59 _ ⟨hσ_59, f50⟩
        exact wp_some ⟨hσ_59, (FR_le (ms := [kR_highDen, kR_highNum, kR_highOpen]) f50 (by decide))⟩
    rintro σ_62 _ ⟨hσ_62, f51⟩
    have c53 := ii_kR_lowNum hσ_62 0
    have c54 := FR_at f51 (c := kR_lowNum) (by decide) 0
    have c55 := ii_kR_lowNum hσ_35 0
    have c56 := ii_kR_highDen hσ_62 0
    have c57 := ii_kR_highNum hσ_62 0
    have c58 := ii_kR_lowDen hσ_62 0
    have c59 := FR_at f51 (c := kR_lowDen) (by decide) 0
    have c60 := ii_kR_lowDen hσ_35 0
    refine wp_lt (fun x_63 e52 => ?_)
    have c61 := w64_rng x_63
    have c62 := ii_kR_lowOpen hσ_62 0
    have c63 := FR_at f51 (c := kR_lowOpen) (by decide) 0
    have c64 := ii_kR_lowOpen hσ_35 0
    have c65 := ii_kR_highOpen hσ_62 0
    exact wp_some ⟨True.intro, hσ_62, (FR_tr (ms := [kR_highDen, kR_highNum, kR_highOpen, kR_lowDen, kR_lowNum, kR_lowOpen]) (FR_le (ms := [kR_highDen, kR_highNum, kR_highOpen, kR_lowDen, kR_lowNum, kR_lowOpen]) f26 (by decide)) f51 (by decide) (by decide))⟩
theorem s_R_meetsPixel {σ : SG} {i_0 : Int} {h_0 : Int} (hσ : II σ) (qi_0 : 0 ≤ i_0 ∧ i_0 ≤ 4199) (qh_0 : 0 ≤ h_0 ∧ h_0 ≤ 8191) : wp_ (fR_meetsPixel σ i_0 h_0) (fun r => True ∧ II r.2 ∧ FR [kR_highDen, kR_highNum, kR_highOpen, kR_lowDen, kR_lowNum, kR_lowOpen] σ r.2) := by
  unfold fR_meetsPixel
  refine wp_wfI hσ b_kR_lowNum (by (try dsimp only) <;> first | omega | ((try simp (disch := omega) only [w32_of, w64_of, w8_of]) <;> first | omega | (split <;> omega) | (refine And.intro ?_ ?_ <;> split <;> omega))) (fun σ_1 hσ_1 e1 => ?_)
  have f2 := FR_sg e1
  refine wp_wfI hσ_1 b_kR_lowDen (by (try dsimp only) <;> first | omega | ((try simp (disch := omega) only [w32_of, w64_of, w8_of]) <;> first | omega | (split <;> omega) | (refine And.intro ?_ ?_ <;> split <;> omega))) (fun σ_2 hσ_2 e3 => ?_)
  have f4 := FR_sg e3
  have c5 := bz_bd false
  refine wp_wfI hσ_2 b_kR_lowOpen (by (try dsimp only) <;> first | omega | ((try simp (disch := omega) only [w32_of, w64_of, w8_of]) <;> first | omega | (split <;> omega) | (refine And.intro ?_ ?_ <;> split <;> omega))) (fun σ_3 hσ_3 e6 => ?_)
  have f7 := FR_sg e6
  refine wp_wfI hσ_3 b_kR_highNum (by (try dsimp only) <;> first | omega | ((try simp (disch := omega) only [w32_of, w64_of, w8_of]) <;> first | omega | (split <;> omega) | (refine And.intro ?_ ?_ <;> split <;> omega))) (fun σ_4 hσ_4 e8 => ?_)
  have f9 := FR_sg e8
  refine wp_wfI hσ_4 b_kR_highDen (by (try dsimp only) <;> first | omega | ((try simp (disch := omega) only [w32_of, w64_of, w8_of]) <;> first | omega | (split <;> omega) | (refine And.intro ?_ ?_ <;> split <;> omega))) (fun σ_5 hσ_5 e10 => ?_)
  have f11 := FR_sg e10
  refine wp_wfI hσ_5 b_kR_highOpen (by (try dsimp only) <;> first | omega | ((try simp (disch := omega) only [w32_of, w64_of, w8_of]) <;> first | omega | (split <;> omega) | (refine And.intro ?_ ?_ <;> split <;> omega))) (fun σ_6 hσ_6 e12 => ?_)
  have f13 := FR_sg e12
  have c14 := w32_rng h_0
  refine wp_rdI (by (try dsimp only) <;> first | omega | ((try simp (disch := omega) only [w32_of, w64_of, w8_of]) <;> first | omega | (split <;> omega) | (refine And.intro ?_ ?_ <;> split <;> omega))) (by (try dsimp only) <;> first | omega | ((try simp (disch := omega) only [w32_of, w64_of, w8_of]) <;> first | omega | (split <;> omega) | (refine And.intro ?_ ?_ <;> split <;> omega))) (fun x_7 e15 => ?_)
  have b16 : (-1000000000) ≤ x_7 ∧ x_7 ≤ 1000000000 := by rw [e15]; exact ii_kR_hotX hσ_6 _
  refine wp_rdI (by (try dsimp only) <;> first | omega | ((try simp (disch := omega) only [w32_of, w64_of, w8_of]) <;> first | omega | (split <;> omega) | (refine And.intro ?_ ?_ <;> split <;> omega))) (by (try dsimp only) <;> first | omega | ((try simp (disch := omega) only [w32_of, w64_of, w8_of]) <;> first | omega | (split <;> omega) | (refine And.intro ?_ ?_ <;> split <;> omega))) (fun x_9 e17 => ?_)
  have b18 : (-1000000000) ≤ x_9 ∧ x_9 ≤ 1000000000 := by rw [e17]; exact ii_kR_hotY hσ_6 _
  refine wp_bd (P := fun r => True ∧ II r.2 ∧ FR [kR_highDen, kR_highNum, kR_highOpen, kR_lowDen, kR_lowNum, kR_lowOpen] σ_6 r.2) ?_ ?_
  · have c19 := w32_rng i_0
    refine wp_rdI (by (try dsimp only) <;> first | omega | ((try simp (disch := omega) only [w32_of, w64_of, w8_of]) <;> first | omega | (split <;> omega) | (refine And.intro ?_ ?_ <;> split <;> omega))) (by (try dsimp only) <;> first | omega | ((try simp (disch := omega) only [w32_of, w64_of, w8_of]) <;> first | omega | (split <;> omega) | (refine And.intro ?_ ?_ <;> split <;> omega))) (fun x_11 e20 => ?_)
    have b21 : (-1000000000) ≤ x_11 ∧ x_11 ≤ 1000000000 := by rw [e20]; exact ii_kR_sx hσ_6 _
    refine wp_rdI (by (try dsimp only) <;> first | omega | ((try simp (disch := omega) only [w32_of, w64_of, w8_of]) <;> first | omega | (split <;> omega) | (refine And.intro ?_ ?_ <;> split <;> omega))) (by (try dsimp only) <;> first | omega | ((try simp (disch := omega) only [w32_of, w64_of, w8_of]) <;> first | omega | (split <;> omega) | (refine And.intro ?_ ?_ <;> split <;> omega))) (fun x_13 e22 => ?_)
    have b23 : (-1000000000) ≤ x_13 ∧ x_13 ≤ 1000000000 := by rw [e22]; exact ii_kR_ex hσ_6 _
    refine wp_rdI (by (try dsimp only) <;> first | omega | ((try simp (disch := omega) only [w32_of, w64_of, w8_of]) <;> first | omega | (split <;> omega) | (refine And.intro ?_ ?_ <;> split <;> omega))) (by (try dsimp only) <;> first | omega | ((try simp (disch := omega) only [w32_of, w64_of, w8_of]) <;> first | omega | (split <;> omega) | (refine And.intro ?_ ?_ <;> split <;> omega))) (fun x_15 e24 => ?_)
    have b25 : (-1000000000) ≤ x_15 ∧ x_15 ≤ 1000000000 := by rw [e24]; exact ii_kR_sx hσ_6 _
    refine wp_bd (s_R_cuts (σ := σ_6) (from_0 := (2 * x_11)) (d_0 := (2 * (x_13 - x_15))) (low_0 := ((2 * x_7) - 1)) (high_0 := ((2 * x_7) + 1)) hσ_6 (by (try dsimp only) <;> first | omega | ((try simp (disch := omega) only [w32_of, w64_of, w8_of]) <;> first | omega | (split <;> omega) | (refine And.intro ?_ ?_ <;> split <;> omega))) (by (try dsimp only) <;> first | omega | ((try simp (disch := omega) only [w32_of, w64_of, w8_of]) <;> first | omega | (split <;> omega) | (refine And.intro ?_ ?_ <;> split <;> omega))) (by (try dsimp only) <;> first | omega | ((try simp (disch := omega) only [w32_of, w64_of, w8_of]) <;> first | omega | (split <;> omega) | (refine And.intro ?_ ?_ <;> split <;> omega))) (by (try dsimp only) <;> first | omega | ((try simp (disch := omega) only [w32_of, w64_of, w8_of]) <;> first | omega | (split <;> omega) | (refine And.intro ?_ ?_ <;> split <;> omega)))) ?_
    rintro ⟨x_19, σ_18⟩ _ y28
    dsimp only at y28 ⊢
    obtain ⟨g26, hσ_18, f27⟩ := y28
    refine wp_if (fun h29 => ?_) (fun h29 => ?_)
    · try simp (disch := omega) only [w32_of, w64_of, w8_of, decide_eq_true_eq, decide_eq_false_iff_not] at h29
      refine wp_rdI (by (try dsimp only) <;> first | omega | ((try simp (disch := omega) only [w32_of, w64_of, w8_of]) <;> first | omega | (split <;> omega) | (refine And.intro ?_ ?_ <;> split <;> omega))) (by (try dsimp only) <;> first | omega | ((try simp (disch := omega) only [w32_of, w64_of, w8_of]) <;> first | omega | (split <;> omega) | (refine And.intro ?_ ?_ <;> split <;> omega))) (fun x_21 e30 => ?_)
      have b31 : (-1000000000) ≤ x_21 ∧ x_21 ≤ 1000000000 := by rw [e30]; exact ii_kR_sy hσ_18 _
      refine wp_rdI (by (try dsimp only) <;> first | omega | ((try simp (disch := omega) only [w32_of, w64_of, w8_of]) <;> first | omega | (split <;> omega) | (refine And.intro ?_ ?_ <;> split <;> omega))) (by (try dsimp only) <;> first | omega | ((try simp (disch := omega) only [w32_of, w64_of, w8_of]) <;> first | omega | (split <;> omega) | (refine And.intro ?_ ?_ <;> split <;> omega))) (fun x_23 e32 => ?_)
      have b33 : (-1000000000) ≤ x_23 ∧ x_23 ≤ 1000000000 := by rw [e32]; exact ii_kR_ey hσ_18 _
      refine wp_rdI (by (try dsimp only) <;> first | omega | ((try simp (disch := omega) only [w32_of, w64_of, w8_of]) <;> first | omega | (split <;> omega) | (refine And.intro ?_ ?_ <;> split <;> omega))) (by (try dsimp only) <;> first | omega | ((try simp (disch := omega) only [w32_of, w64_of, w8_of]) <;> first | omega | (split <;> omega) | (refine And.intro ?_ ?_ <;> split <;> omega))) (fun x_25 e34 => ?_)
      have b35 : (-1000000000) ≤ x_25 ∧ x_25 ≤ 1000000000 := by rw [e34]; exact ii_kR_sy hσ_18 _
      refine wp_bd (s_R_cuts (σ := σ_18) (from_0 := (2 * x_21)) (d_0 := (2 * (x_23 - x_25))) (low_0 := ((2 * x_9) - 1)) (high_0 := ((2 * x_9) + 1)) hσ_18 (by (try dsimp only) <;> first | omega | ((try simp (disch := omega) only [w32_of, w64_of, w8_of]) <;> first | omega | (split <;> omega) | (refine And.intro ?_ ?_ <;> split <;> omega))) (by (try dsimp only) <;> first | omega | ((try simp (disch := omega) only [w32_of, w64_of, w8_of]) <;> first | omega | (split <;> omega) | (refine And.intro ?_ ?_ <;> split <;> omega))) (by (try dsimp only) <;> first | omega | ((try simp (disch := omega) only [w32_of, w64_of, w8_of]) <;> first | omega | (split <;> omega) | (refine And.intro ?_ ?_ <;> split <;> omega))) (by (try dsimp only) <;> first | omega | ((try simp (disch := omega) only [w32_of, w64_of, w8_of]) <;> first | omega | (split <;> omega) | (refine And.intro ?_ ?_ <;> split <;> omega)))) ?_
      rintro ⟨x_29, σ_28⟩ _ y38
      dsimp only at y38 ⊢
      obtain ⟨g36, hσ_28, f37⟩ := y38
      refine wp_if (fun h39 => ?_) (fun h39 => ?_)
      · try simp (disch := omega) only [w32_of, w64_of, w8_of, decide_eq_true_eq, decide_eq_false_iff_not] at h39
        exact wp_some ⟨True.intro, hσ_28, (FR_tr (ms := [kR_highDen, kR_highNum, kR_highOpen, kR_lowDen, kR_lowNum, kR_lowOpen]) (FR_le (ms := [kR_highDen, kR_highNum, kR_highOpen, kR_lowDen, kR_lowNum, kR_lowOpen]) f27 (by decide)) f37 (by decide) (by decide))⟩
      · try simp (disch := omega) only [w32_of, w64_of, w8_of, decide_eq_true_eq, decide_eq_false_iff_not] at h39
        exact wp_some ⟨True.intro, hσ_28, (FR_tr (ms := [kR_highDen, kR_highNum, kR_highOpen, kR_lowDen, kR_lowNum, kR_lowOpen]) (FR_le (ms := [kR_highDen, kR_highNum, kR_highOpen, kR_lowDen, kR_lowNum, kR_lowOpen]) f27 (by decide)) f37 (by decide) (by decide))⟩
    · try simp (disch := omega) only [w32_of, w64_of, w8_of, decide_eq_true_eq, decide_eq_false_iff_not] at h29
      exact wp_some ⟨True.intro, hσ_18, (FR_le (ms := [kR_highDen, kR_highNum, kR_highOpen, kR_lowDen, kR_lowNum, kR_lowOpen]) f27 (by decide))⟩
  rintro ⟨x_34, σ_35⟩ _ y42
  dsimp only at y42 ⊢
  obtain ⟨g40, hσ_35, f41⟩ := y42
  exact wp_some ⟨True.intro, hσ_35, (FR_tr (ms := [kR_highDen, kR_highNum, kR_highOpen, kR_lowDen, kR_lowNum, kR_lowOpen]) (FR_tr (ms := [kR_highDen, kR_highNum, kR_highOpen, kR_lowDen, kR_lowNum, kR_lowOpen]) (FR_tr (ms := [kR_highDen, kR_highNum, kR_highOpen, kR_lowDen, kR_lowNum, kR_lowOpen]) (FR_tr (ms := [kR_highDen, kR_highNum, kR_highOpen, kR_lowDen, kR_lowNum, kR_lowOpen]) (FR_tr (ms := [kR_highDen, kR_highNum, kR_highOpen, kR_lowDen, kR_lowNum, kR_lowOpen]) (FR_tr (ms := [kR_highDen, kR_highNum, kR_highOpen, kR_lowDen, kR_lowNum, kR_lowOpen]) (FR_le (ms := [kR_highDen, kR_highNum, kR_highOpen, kR_lowDen, kR_lowNum, kR_lowOpen]) f2 (by decide)) f4 (by decide) (by decide)) f7 (by decide) (by decide)) f9 (by decide) (by decide)) f11 (by decide) (by decide)) f13 (by decide) (by decide)) f41 (by decide) (by decide))⟩
theorem s_R_isSooner {σ : SG} {k_0 : Int} (hσ : II σ) (qk_0 : 0 ≤ k_0 ∧ k_0 ≤ 8192) : wp_ (fR_isSooner σ k_0) (fun r => True) := by
  unfold fR_isSooner
  have c1 := w32_rng k_0
  refine wp_rdI (by (try dsimp only) <;> first | omega | ((try simp (disch := omega) only [w32_of, w64_of, w8_of]) <;> first | omega | (split <;> omega) | (refine And.intro ?_ ?_ <;> split <;> omega))) (by (try dsimp only) <;> first | omega | ((try simp (disch := omega) only [w32_of, w64_of, w8_of]) <;> first | omega | (split <;> omega) | (refine And.intro ?_ ?_ <;> split <;> omega))) (fun x_1 e2 => ?_)
  have b3 : 0 ≤ x_1 ∧ x_1 ≤ 8589934592 := by rw [e2]; exact ii_kR_chainDen hσ _
  refine wp_rdI (by (try dsimp only) <;> first | omega | ((try simp (disch := omega) only [w32_of, w64_of, w8_of]) <;> first | omega | (split <;> omega) | (refine And.intro ?_ ?_ <;> split <;> omega))) (by (try dsimp only) <;> first | omega | ((try simp (disch := omega) only [w32_of, w64_of, w8_of]) <;> first | omega | (split <;> omega) | (refine And.intro ?_ ?_ <;> split <;> omega))) (fun x_3 e4 => ?_)
  have b5 : (-4611686018427387904) ≤ x_3 ∧ x_3 ≤ 4611686018427387904 := by rw [e4]; exact ii_kR_chainNum hσ _
  refine wp_bd (P := fun r => True) ?_ ?_
  · have c7 := ii_kR_lowNum hσ 0
    have c8 := ii_kR_lowDen hσ 0
    have c9 := w64_rng (((σ kR_lowNum 0) * x_1) - (x_3 * (σ kR_lowDen 0)))
    refine wp_if (fun h6 => ?_) (fun h6 => ?_)
    · try simp (disch := omega) only [w32_of, w64_of, w8_of, decide_eq_true_eq, decide_eq_false_iff_not] at h6
      exact wp_some True.intro
    · try simp (disch := omega) only [w32_of, w64_of, w8_of, decide_eq_true_eq, decide_eq_false_iff_not] at h6
      refine wp_if (fun h10 => ?_) (fun h10 => ?_)
      · try simp (disch := omega) only [w32_of, w64_of, w8_of, decide_eq_true_eq, decide_eq_false_iff_not] at h10
        have c12 := ii_kR_lowOpen hσ 0
        refine wp_if (fun h11 => ?_) (fun h11 => ?_)
        · try simp (disch := omega) only [w32_of, w64_of, w8_of, decide_eq_true_eq, decide_eq_false_iff_not] at h11
          exact wp_some True.intro
        · try simp (disch := omega) only [w32_of, w64_of, w8_of, decide_eq_true_eq, decide_eq_false_iff_not] at h11
          refine wp_rdI (by (try dsimp only) <;> first | omega | ((try simp (disch := omega) only [w32_of, w64_of, w8_of]) <;> first | omega | (split <;> omega) | (refine And.intro ?_ ?_ <;> split <;> omega))) (by (try dsimp only) <;> first | omega | ((try simp (disch := omega) only [w32_of, w64_of, w8_of]) <;> first | omega | (split <;> omega) | (refine And.intro ?_ ?_ <;> split <;> omega))) (fun x_10 e13 => ?_)
          have b14 : 0 ≤ x_10 ∧ x_10 ≤ 1 := by rw [e13]; exact ii_kR_chainOpen hσ _
          refine wp_if (fun h15 => ?_) (fun h15 => ?_)
          · try simp (disch := omega) only [w32_of, w64_of, w8_of, decide_eq_true_eq, decide_eq_false_iff_not] at h15
            exact wp_some True.intro
          · try simp (disch := omega) only [w32_of, w64_of, w8_of, decide_eq_true_eq, decide_eq_false_iff_not] at h15
            exact wp_some True.intro
      · try simp (disch := omega) only [w32_of, w64_of, w8_of, decide_eq_true_eq, decide_eq_false_iff_not] at h10
        exact wp_some True.intro
  rintro x_16 _ g16
  exact wp_some True.intro
theorem s_R_isStraight {σ : SG} {a_0 : Int} {b_0 : Int} {c_0 : Int} (hσ : II σ) (qa_0 : 0 ≤ a_0 ∧ a_0 ≤ 8191) (qb_0 : 0 ≤ b_0 ∧ b_0 ≤ 8191) (qc_0 : 0 ≤ c_0 ∧ c_0 ≤ 8191) : wp_ (fR_isStraight σ a_0 b_0 c_0) (fun r => True) := by
  unfold fR_isStraight
  refine wp_bd (P := fun r => True) ?_ ?_
  · have c1 := w32_rng a_0
    refine wp_rdI (by (try dsimp only) <;> first | omega | ((try simp (disch := omega) only [w32_of, w64_of, w8_of]) <;> first | omega | (split <;> omega) | (refine And.intro ?_ ?_ <;> split <;> omega))) (by (try dsimp only) <;> first | omega | ((try simp (disch := omega) only [w32_of, w64_of, w8_of]) <;> first | omega | (split <;> omega) | (refine And.intro ?_ ?_ <;> split <;> omega))) (fun x_1 e2 => ?_)
    have b3 : (-1000000000) ≤ x_1 ∧ x_1 ≤ 1000000000 := by rw [e2]; exact ii_kR_hotX hσ _
    refine wp_rdI (by (try dsimp only) <;> first | omega | ((try simp (disch := omega) only [w32_of, w64_of, w8_of]) <;> first | omega | (split <;> omega) | (refine And.intro ?_ ?_ <;> split <;> omega))) (by (try dsimp only) <;> first | omega | ((try simp (disch := omega) only [w32_of, w64_of, w8_of]) <;> first | omega | (split <;> omega) | (refine And.intro ?_ ?_ <;> split <;> omega))) (fun x_3 e4 => ?_)
    have b5 : (-1000000000) ≤ x_3 ∧ x_3 ≤ 1000000000 := by rw [e4]; exact ii_kR_hotY hσ _
    have c6 := w32_rng b_0
    refine wp_rdI (by (try dsimp only) <;> first | omega | ((try simp (disch := omega) only [w32_of, w64_of, w8_of]) <;> first | omega | (split <;> omega) | (refine And.intro ?_ ?_ <;> split <;> omega))) (by (try dsimp only) <;> first | omega | ((try simp (disch := omega) only [w32_of, w64_of, w8_of]) <;> first | omega | (split <;> omega) | (refine And.intro ?_ ?_ <;> split <;> omega))) (fun x_5 e7 => ?_)
    have b8 : (-1000000000) ≤ x_5 ∧ x_5 ≤ 1000000000 := by rw [e7]; exact ii_kR_hotX hσ _
    refine wp_rdI (by (try dsimp only) <;> first | omega | ((try simp (disch := omega) only [w32_of, w64_of, w8_of]) <;> first | omega | (split <;> omega) | (refine And.intro ?_ ?_ <;> split <;> omega))) (by (try dsimp only) <;> first | omega | ((try simp (disch := omega) only [w32_of, w64_of, w8_of]) <;> first | omega | (split <;> omega) | (refine And.intro ?_ ?_ <;> split <;> omega))) (fun x_7 e9 => ?_)
    have b10 : (-1000000000) ≤ x_7 ∧ x_7 ≤ 1000000000 := by rw [e9]; exact ii_kR_hotY hσ _
    have c11 := w32_rng c_0
    refine wp_rdI (by (try dsimp only) <;> first | omega | ((try simp (disch := omega) only [w32_of, w64_of, w8_of]) <;> first | omega | (split <;> omega) | (refine And.intro ?_ ?_ <;> split <;> omega))) (by (try dsimp only) <;> first | omega | ((try simp (disch := omega) only [w32_of, w64_of, w8_of]) <;> first | omega | (split <;> omega) | (refine And.intro ?_ ?_ <;> split <;> omega))) (fun x_9 e12 => ?_)
    have b13 : (-1000000000) ≤ x_9 ∧ x_9 ≤ 1000000000 := by rw [e12]; exact ii_kR_hotX hσ _
    refine wp_rdI (by (try dsimp only) <;> first | omega | ((try simp (disch := omega) only [w32_of, w64_of, w8_of]) <;> first | omega | (split <;> omega) | (refine And.intro ?_ ?_ <;> split <;> omega))) (by (try dsimp only) <;> first | omega | ((try simp (disch := omega) only [w32_of, w64_of, w8_of]) <;> first | omega | (split <;> omega) | (refine And.intro ?_ ?_ <;> split <;> omega))) (fun x_11 e14 => ?_)
    have b15 : (-1000000000) ≤ x_11 ∧ x_11 ≤ 1000000000 := by rw [e14]; exact ii_kR_hotY hσ _
    have c17 := p_R_turn (ax_0 := x_1) (ay_0 := x_3) (bx_0 := x_5) (by_0 := x_7) (cx_0 := x_9) (cy_0 := x_11)
    have c18 := w32_rng (fR_turn x_1 x_3 x_5 x_7 x_9 x_11)
    refine wp_if (fun h16 => ?_) (fun h16 => ?_)
    · try simp (disch := omega) only [w32_of, w64_of, w8_of, decide_eq_true_eq, decide_eq_false_iff_not] at h16
      exact wp_some True.intro
    · try simp (disch := omega) only [w32_of, w64_of, w8_of, decide_eq_true_eq, decide_eq_false_iff_not] at h16
      exact wp_some True.intro
  rintro x_16 _ g19
  exact wp_some True.intro
theorem s_R_canRelate {σ : SG} {slot_0 : Int} (hσ : II σ) (qslot_0 : 0 ≤ slot_0 ∧ slot_0 ≤ 31) : wp_ (fR_canRelate σ slot_0) (fun r => True) := by
  unfold fR_canRelate
  refine wp_bd (P := fun r => True) ?_ ?_
  · have c1 := w32_rng (2048 * slot_0)
    refine wp_rdI (by (try dsimp only) <;> first | omega | ((try simp (disch := omega) only [w32_of, w64_of, w8_of]) <;> first | omega | (split <;> omega) | (refine And.intro ?_ ?_ <;> split <;> omega))) (by (try dsimp only) <;> first | omega | ((try simp (disch := omega) only [w32_of, w64_of, w8_of]) <;> first | omega | (split <;> omega) | (refine And.intro ?_ ?_ <;> split <;> omega))) (fun x_1 e2 => ?_)
    have c5 := w32_rng x_1
    refine wp_if (fun h4 => ?_) (fun h4 => ?_)
    · try simp (disch := omega) only [w32_of, w64_of, w8_of, decide_eq_true_eq, decide_eq_false_iff_not] at h4
      refine wp_bd (s_R_isNear (σ := σ) (slot_0 := slot_0) hσ (by (try dsimp only) <;> first | omega | ((try simp (disch := omega) only [w32_of, w64_of, w8_of]) <;> first | omega | (split <;> omega) | (refine And.intro ?_ ?_ <;> split <;> omega)))) ?_
      rintro x_5 _ g6
      refine wp_if (fun h7 => ?_) (fun h7 => ?_)
      · try simp (disch := omega) only [w32_of, w64_of, w8_of, decide_eq_true_eq, decide_eq_false_iff_not] at h7
        exact wp_some True.intro
      · try simp (disch := omega) only [w32_of, w64_of, w8_of, decide_eq_true_eq, decide_eq_false_iff_not] at h7
        exact wp_some True.intro
    · try simp (disch := omega) only [w32_of, w64_of, w8_of, decide_eq_true_eq, decide_eq_false_iff_not] at h4
      exact wp_some True.intro
  rintro x_10 _ g8
  exact wp_some True.intro
theorem s_R_mark {σ : SG} {a_0 : Int} {b_0 : Int} {dimension_0 : Int} (hσ : II σ) (qa_0 : 0 ≤ a_0 ∧ a_0 ≤ 2) (qb_0 : 0 ≤ b_0 ∧ b_0 ≤ 2) (qdimension_0 : 0 ≤ dimension_0 ∧ dimension_0 ≤ 2) : wp_ (fR_mark σ a_0 b_0 dimension_0) (fun r => II r ∧ FR [kR_matrix] σ r) := by
  unfold fR_mark
  refine wp_bd (P := fun r => ((-1) ≤ r ∧ r ≤ 2)) ?_ ?_
  · have c1 := w32_rng ((3 * a_0) + b_0)
    refine wp_rdI (by (try dsimp only) <;> first | omega | ((try simp (disch := omega) only [w32_of, w64_of, w8_of]) <;> first | omega | (split <;> omega) | (refine And.intro ?_ ?_ <;> split <;> omega))) (by (try dsimp only) <;> first | omega | ((try simp (disch := omega) only [w32_of, w64_of, w8_of]) <;> first | omega | (split <;> omega) | (refine And.intro ?_ ?_ <;> split <;> omega))) (fun x_1 e2 => ?_)
    have b3 : (-1) ≤ x_1 ∧ x_1 ≤ 2 := by rw [e2]; exact ii_kR_matrix hσ _
    have c5 := w32_rng x_1
    have c6 := w32_rng dimension_0
    refine wp_if (fun h4 => ?_) (fun h4 => ?_)
    · try simp (disch := omega) only [w32_of, w64_of, w8_of, decide_eq_true_eq, decide_eq_false_iff_not] at h4
      exact wp_some (by (try dsimp only) <;> first | omega | ((try simp (disch := omega) only [w32_of, w64_of, w8_of]) <;> first | omega | (split <;> omega) | (refine And.intro ?_ ?_ <;> split <;> omega)))
    · try simp (disch := omega) only [w32_of, w64_of, w8_of, decide_eq_true_eq, decide_eq_false_iff_not] at h4
      refine wp_rdI (by (try dsimp only) <;> first | omega | ((try simp (disch := omega) only [w32_of, w64_of, w8_of]) <;> first | omega | (split <;> omega) | (refine And.intro ?_ ?_ <;> split <;> omega))) (by (try dsimp only) <;> first | omega | ((try simp (disch := omega) only [w32_of, w64_of, w8_of]) <;> first | omega | (split <;> omega) | (refine And.intro ?_ ?_ <;> split <;> omega))) (fun x_5 e7 => ?_)
      have b8 : (-1) ≤ x_5 ∧ x_5 ≤ 2 := by rw [e7]; exact ii_kR_matrix hσ _
      exact wp_some (by (try dsimp only) <;> first | omega | ((try simp (disch := omega) only [w32_of, w64_of, w8_of]) <;> first | omega | (split <;> omega) | (refine And.intro ?_ ?_ <;> split <;> omega)))
  rintro x_8 _ g9
  have c10 := w32_rng ((3 * a_0) + b_0)
  refine wp_waI hσ b_kR_matrix (by (try dsimp only) <;> first | omega | ((try simp (disch := omega) only [w32_of, w64_of, w8_of]) <;> first | omega | (split <;> omega) | (refine And.intro ?_ ?_ <;> split <;> omega))) (by (try dsimp only) <;> first | omega | ((try simp (disch := omega) only [w32_of, w64_of, w8_of]) <;> first | omega | (split <;> omega) | (refine And.intro ?_ ?_ <;> split <;> omega))) (by (try dsimp only) <;> first | omega | ((try simp (disch := omega) only [w32_of, w64_of, w8_of]) <;> first | omega | (split <;> omega) | (refine And.intro ?_ ?_ <;> split <;> omega))) (fun σ_9 hσ_9 e11 => ?_)
  have f12 := FR_sg e11
  exact wp_some ⟨hσ_9, (FR_le (ms := [kR_matrix]) f12 (by decide))⟩
theorem s_R_isTooMuch {σ : SG} (hσ : II σ) : wp_ (fR_isTooMuch σ) (fun r => True ∧ II r.2 ∧ FR [kR_isInner, kR_meetX, kR_meetY] σ r.2) := by
  unfold fR_isTooMuch
  refine wp_bx (P := fun r => (2 ≤ r ∧ r ≤ 2)) ?_ ?_
  · refine wp_whl (fun s => (0 ≤ s ∧ s ≤ 2)) (fun s => (3 - s).toNat) (by (try dsimp only) <;> first | omega | ((try simp (disch := omega) only [w32_of, w64_of, w8_of]) <;> first | omega | (split <;> omega) | (refine And.intro ?_ ?_ <;> split <;> omega))) ?_
    rintro s_1 g1
    have c3 := w32_rng s_1
    refine wp_if (fun h2 => ?_) (fun h2 => ?_)
    · try simp (disch := omega) only [w32_of, w64_of, w8_of, decide_eq_true_eq, decide_eq_false_iff_not] at h2
      refine wp_rdI (by (try dsimp only) <;> first | omega | ((try simp (disch := omega) only [w32_of, w64_of, w8_of]) <;> first | omega | (split <;> omega) | (refine And.intro ?_ ?_ <;> split <;> omega))) (by (try dsimp only) <;> first | omega | ((try simp (disch := omega) only [w32_of, w64_of, w8_of]) <;> first | omega | (split <;> omega) | (refine And.intro ?_ ?_ <;> split <;> omega))) (fun x_20 e4 => ?_)
      have b5 : (-1) ≤ x_20 ∧ x_20 ≤ 2 := by rw [e4]; exact ii_kR_typeOf hσ _
      have c7 := w32_rng x_20
      refine wp_if (fun h6 => ?_) (fun h6 => ?_)
      · try simp (disch := omega) only [w32_of, w64_of, w8_of, decide_eq_true_eq, decide_eq_false_iff_not] at h6
        refine wp_rdI (by (try dsimp only) <;> first | omega | ((try simp (disch := omega) only [w32_of, w64_of, w8_of]) <;> first | omega | (split <;> omega) | (refine And.intro ?_ ?_ <;> split <;> omega))) (by (try dsimp only) <;> first | omega | ((try simp (disch := omega) only [w32_of, w64_of, w8_of]) <;> first | omega | (split <;> omega) | (refine And.intro ?_ ?_ <;> split <;> omega))) (fun x_23 e8 => ?_)
        have b9 : 0 ≤ x_23 ∧ x_23 ≤ 2048 := by rw [e8]; exact ii_kR_partsOf hσ _
        have c11 := w32_rng x_23
        refine wp_if (fun h10 => ?_) (fun h10 => ?_)
        · try simp (disch := omega) only [w32_of, w64_of, w8_of, decide_eq_true_eq, decide_eq_false_iff_not] at h10
          exact wp_some ⟨fun _ e => (by cases e), fun _ e => by cases e; exact ⟨fun _ e => (by cases e), fun _ e => by cases e; exact ⟨True.intro, hσ, (FR_refl _ _)⟩⟩⟩
        · try simp (disch := omega) only [w32_of, w64_of, w8_of, decide_eq_true_eq, decide_eq_false_iff_not] at h10
          exact wp_some ⟨fun _ e => by cases e; exact ⟨(by (try dsimp only) <;> first | omega | ((try simp (disch := omega) only [w32_of, w64_of, w8_of]) <;> first | omega | (split <;> omega) | (refine And.intro ?_ ?_ <;> split <;> omega))), by (try dsimp only) <;> first | omega | ((try simp (disch := omega) only [w32_of, w64_of, w8_of]) <;> first | omega | (split <;> omega) | (refine And.intro ?_ ?_ <;> split <;> omega))⟩, fun _ e => (by cases e)⟩
      · try simp (disch := omega) only [w32_of, w64_of, w8_of, decide_eq_true_eq, decide_eq_false_iff_not] at h6
        exact wp_some ⟨fun _ e => by cases e; exact ⟨(by (try dsimp only) <;> first | omega | ((try simp (disch := omega) only [w32_of, w64_of, w8_of]) <;> first | omega | (split <;> omega) | (refine And.intro ?_ ?_ <;> split <;> omega))), by (try dsimp only) <;> first | omega | ((try simp (disch := omega) only [w32_of, w64_of, w8_of]) <;> first | omega | (split <;> omega) | (refine And.intro ?_ ?_ <;> split <;> omega))⟩, fun _ e => (by cases e)⟩
    · try simp (disch := omega) only [w32_of, w64_of, w8_of, decide_eq_true_eq, decide_eq_false_iff_not] at h2
      exact wp_some ⟨fun _ e => (by cases e), fun _ e => by cases e; exact ⟨fun _ e => by cases e; exact (by (try dsimp only) <;> first | omega | ((try simp (disch := omega) only [w32_of, w64_of, w8_of]) <;> first | omega | (split <;> omega) | (refine And.intro ?_ ?_ <;> split <;> omega))), fun _ e => (by cases e)⟩⟩
  rintro s_29 g12
  have c14 := ii_kR_segments hσ 0
  have c15 := w32_rng (σ kR_segments 0)
  refine wp_if (fun h13 => ?_) (fun h13 => ?_)
  · try simp (disch := omega) only [w32_of, w64_of, w8_of, decide_eq_true_eq, decide_eq_false_iff_not] at h13
    exact wp_some ⟨True.intro, hσ, (FR_refl _ _)⟩
  · try simp (disch := omega) only [w32_of, w64_of, w8_of, decide_eq_true_eq, decide_eq_false_iff_not] at h13
    refine wp_bd (P := fun r => True ∧ (0 ≤ r.2.1 ∧ r.2.1 ≤ 256) ∧ II r.2.2 ∧ FR [kR_isInner, kR_meetX, kR_meetY] σ r.2.2) ?_ ?_
    · refine wp_whl (fun s => True ∧ (0 ≤ s.2.1 ∧ s.2.1 ≤ 256) ∧ II s.2.2 ∧ FR [kR_isInner, kR_meetX, kR_meetY] σ s.2.2) (fun s => (257 - s.2.1).toNat) ⟨True.intro, (by (try dsimp only) <;> first | omega | ((try simp (disch := omega) only [w32_of, w64_of, w8_of]) <;> first | omega | (split <;> omega) | (refine And.intro ?_ ?_ <;> split <;> omega))), hσ, (FR_refl _ _)⟩ ?_
      rintro ⟨n_31, i_32, σ_33⟩ y19
      dsimp only at y19 ⊢
      obtain ⟨g16, g17, hσ_33, f18⟩ := y19
      have c21 := w32_rng i_32
      have c22 := ii_kR_segments hσ_33 0
      have c23 := FR_at f18 (c := kR_segments) (by decide) 0
      have c24 := w32_rng (σ_33 kR_segments 0)
      refine wp_if (fun h20 => ?_) (fun h20 => ?_)
      · try simp (disch := omega) only [w32_of, w64_of, w8_of, decide_eq_true_eq, decide_eq_false_iff_not] at h20
        refine wp_bd (P := fun r => True ∧ (1 ≤ r.2.1 ∧ r.2.1 ≤ 256) ∧ II r.2.2 ∧ FR [kR_isInner, kR_meetX, kR_meetY] σ_33 r.2.2) ?_ ?_
        · refine wp_whl (fun s => True ∧ (1 ≤ s.2.1 ∧ s.2.1 ≤ 256) ∧ II s.2.2 ∧ FR [kR_isInner, kR_meetX, kR_meetY] σ_33 s.2.2) (fun s => (257 - s.2.1).toNat) ⟨True.intro, (by (try dsimp only) <;> first | omega | ((try simp (disch := omega) only [w32_of, w64_of, w8_of]) <;> first | omega | (split <;> omega) | (refine And.intro ?_ ?_ <;> split <;> omega))), hσ_33, (FR_refl _ _)⟩ ?_
          rintro ⟨n_42, j_43, σ_44⟩ y28
          dsimp only at y28 ⊢
          obtain ⟨g25, g26, hσ_44, f27⟩ := y28
          have c30 := w32_rng j_43
          have c31 := ii_kR_segments hσ_44 0
          have c32 := FR_at f27 (c := kR_segments) (by decide) 0
          have c33 := w32_rng (σ_44 kR_segments 0)
          refine wp_if (fun h29 => ?_) (fun h29 => ?_)
          · try simp (disch := omega) only [w32_of, w64_of, w8_of, decide_eq_true_eq, decide_eq_false_iff_not] at h29
            refine wp_bd (P := fun r => True ∧ II r.2 ∧ FR [kR_isInner, kR_meetX, kR_meetY] σ_44 r.2) ?_ ?_
            · refine wp_bd (s_R_meet (σ := σ_44) (i_0 := i_32) (j_0 := j_43) hσ_44 (by (try dsimp only) <;> first | omega | ((try simp (disch := omega) only [w32_of, w64_of, w8_of]) <;> first | omega | (split <;> omega) | (refine And.intro ?_ ?_ <;> split <;> omega))) (by (try dsimp only) <;> first | omega | ((try simp (disch := omega) only [w32_of, w64_of, w8_of]) <;> first | omega | (split <;> omega) | (refine And.intro ?_ ?_ <;> split <;> omega)))) ?_
              rintro ⟨x_55, σ_54⟩ _ y36
              dsimp only at y36 ⊢
              obtain ⟨g34, hσ_54, f35⟩ := y36
              have c38 := w32_rng x_55
              refine wp_if (fun h37 => ?_) (fun h37 => ?_)
              · try simp (disch := omega) only [w32_of, w64_of, w8_of, decide_eq_true_eq, decide_eq_false_iff_not] at h37
                exact wp_some ⟨True.intro, hσ_54, (FR_le (ms := [kR_isInner, kR_meetX, kR_meetY]) f35 (by decide))⟩
              · try simp (disch := omega) only [w32_of, w64_of, w8_of, decide_eq_true_eq, decide_eq_false_iff_not] at h37
                exact wp_some ⟨True.intro, hσ_54, (FR_le (ms := [kR_isInner, kR_meetX, kR_meetY]) f35 (by decide))⟩
            rintro ⟨x_59, σ_60⟩ _ y41
            dsimp only at y41 ⊢
            obtain ⟨g39, hσ_60, f40⟩ := y41
            exact wp_some ⟨fun _ e => by cases e; exact ⟨⟨True.intro, (by (try dsimp only) <;> first | omega | ((try simp (disch := omega) only [w32_of, w64_of, w8_of]) <;> first | omega | (split <;> omega) | (refine And.intro ?_ ?_ <;> split <;> omega))), hσ_60, (FR_tr (ms := [kR_isInner, kR_meetX, kR_meetY]) (FR_le (ms := [kR_isInner, kR_meetX, kR_meetY]) f27 (by decide)) f40 (by decide) (by decide))⟩, by (try dsimp only) <;> first | omega | ((try simp (disch := omega) only [w32_of, w64_of, w8_of]) <;> first | omega | (split <;> omega) | (refine And.intro ?_ ?_ <;> split <;> omega))⟩, fun _ e => (by cases e)⟩
          · try simp (disch := omega) only [w32_of, w64_of, w8_of, decide_eq_true_eq, decide_eq_false_iff_not] at h29
            exact wp_some ⟨fun _ e => (by cases e), fun _ e => by cases e; exact ⟨True.intro, (by (try dsimp only) <;> first | omega | ((try simp (disch := omega) only [w32_of, w64_of, w8_of]) <;> first | omega | (split <;> omega) | (refine And.intro ?_ ?_ <;> split <;> omega))), hσ_44, (FR_le (ms := [kR_isInner, kR_meetX, kR_meetY]) f27 (by decide))⟩⟩
        rintro ⟨n_67, j_68, σ_69⟩ _ y45
        dsimp only at y45 ⊢
        obtain ⟨g42, g43, hσ_69, f44⟩ := y45
        exact wp_some ⟨fun _ e => by cases e; exact ⟨⟨True.intro, (by (try dsimp only) <;> first | omega | ((try simp (disch := omega) only [w32_of, w64_of, w8_of]) <;> first | omega | (split <;> omega) | (refine And.intro ?_ ?_ <;> split <;> omega))), hσ_69, (FR_tr (ms := [kR_isInner, kR_meetX, kR_meetY]) (FR_le (ms := [kR_isInner, kR_meetX, kR_meetY]) f18 (by decide)) f44 (by decide) (by decide))⟩, by (try dsimp only) <;> first | omega | ((try simp (disch := omega) only [w32_of, w64_of, w8_of]) <;> first | omega | (split <;> omega) | (refine And.intro ?_ ?_ <;> split <;> omega))⟩, fun _ e => (by cases e)⟩
      · try simp (disch := omega) only [w32_of, w64_of, w8_of, decide_eq_true_eq, decide_eq_false_iff_not] at h20
        exact wp_some ⟨fun _ e => (by cases e), fun _ e => by cases e; exact ⟨True.intro, (by (try dsimp only) <;> first | omega | ((try simp (disch := omega) only [w32_of, w64_of, w8_of]) <;> first | omega | (split <;> omega) | (refine And.intro ?_ ?_ <;> split <;> omega))), hσ_33, (FR_le (ms := [kR_isInner, kR_meetX, kR_meetY]) f18 (by decide))⟩⟩
    rintro ⟨n_73, i_74, σ_75⟩ _ y49
    dsimp only at y49 ⊢
    obtain ⟨g46, g47, hσ_75, f48⟩ := y49
    have c50 := w32_rng n_73
    exact wp_some ⟨True.intro, hσ_75, (FR_le (ms := [kR_isInner, kR_meetX, kR_meetY]) f48 (by decide))⟩
theorem s_R_dimension {σ : SG} {shape_0 : Int} (hσ : II σ) (qshape_0 : 0 ≤ shape_0 ∧ shape_0 ≤ 1) : wp_ (fR_dimension σ shape_0) (fun r => ((-1) ≤ r ∧ r ≤ 2)) := by
  unfold fR_dimension
  have c1 := w32_rng shape_0
  refine wp_rdI (by (try dsimp only) <;> first | omega | ((try simp (disch := omega) only [w32_of, w64_of, w8_of]) <;> first | omega | (split <;> omega) | (refine And.intro ?_ ?_ <;> split <;> omega))) (by (try dsimp only) <;> first | omega | ((try simp (disch := omega) only [w32_of, w64_of, w8_of]) <;> first | omega | (split <;> omega) | (refine And.intro ?_ ?_ <;> split <;> omega))) (fun x_1 e2 => ?_)
  have b3 : (-1) ≤ x_1 ∧ x_1 ≤ 2 := by rw [e2]; exact ii_kR_typeOf hσ _
  have c5 := w32_rng x_1
  refine wp_if (fun h4 => ?_) (fun h4 => ?_)
  · try simp (disch := omega) only [w32_of, w64_of, w8_of, decide_eq_true_eq, decide_eq_false_iff_not] at h4
    refine wp_bd (P := fun r => ((-1) ≤ r ∧ r ≤ 0)) ?_ ?_
    · refine wp_rdI (by (try dsimp only) <;> first | omega | ((try simp (disch := omega) only [w32_of, w64_of, w8_of]) <;> first | omega | (split <;> omega) | (refine And.intro ?_ ?_ <;> split <;> omega))) (by (try dsimp only) <;> first | omega | ((try simp (disch := omega) only [w32_of, w64_of, w8_of]) <;> first | omega | (split <;> omega) | (refine And.intro ?_ ?_ <;> split <;> omega))) (fun x_4 e6 => ?_)
      have b7 : 0 ≤ x_4 ∧ x_4 ≤ 31 := by rw [e6]; exact ii_kR_slotOf hσ _
      have c8 := w32_rng x_4
      refine wp_rdI (by (try dsimp only) <;> first | omega | ((try simp (disch := omega) only [w32_of, w64_of, w8_of]) <;> first | omega | (split <;> omega) | (refine And.intro ?_ ?_ <;> split <;> omega))) (by (try dsimp only) <;> first | omega | ((try simp (disch := omega) only [w32_of, w64_of, w8_of]) <;> first | omega | (split <;> omega) | (refine And.intro ?_ ?_ <;> split <;> omega))) (fun x_6 e9 => ?_)
      have b10 : 0 ≤ x_6 ∧ x_6 ≤ 2048 := by rw [e9]; exact ii_kR_pointMany hσ _
      have c12 := w32_rng x_6
      refine wp_if (fun h11 => ?_) (fun h11 => ?_)
      · try simp (disch := omega) only [w32_of, w64_of, w8_of, decide_eq_true_eq, decide_eq_false_iff_not] at h11
        exact wp_some (by (try dsimp only) <;> first | omega | ((try simp (disch := omega) only [w32_of, w64_of, w8_of]) <;> first | omega | (split <;> omega) | (refine And.intro ?_ ?_ <;> split <;> omega)))
      · try simp (disch := omega) only [w32_of, w64_of, w8_of, decide_eq_true_eq, decide_eq_false_iff_not] at h11
        exact wp_some (by (try dsimp only) <;> first | omega | ((try simp (disch := omega) only [w32_of, w64_of, w8_of]) <;> first | omega | (split <;> omega) | (refine And.intro ?_ ?_ <;> split <;> omega)))
    rintro x_11 _ g13
    exact wp_some (by (try dsimp only) <;> first | omega | ((try simp (disch := omega) only [w32_of, w64_of, w8_of]) <;> first | omega | (split <;> omega) | (refine And.intro ?_ ?_ <;> split <;> omega)))
  · try simp (disch := omega) only [w32_of, w64_of, w8_of, decide_eq_true_eq, decide_eq_false_iff_not] at h4
    refine wp_rdI (by (try dsimp only) <;> first | omega | ((try simp (disch := omega) only [w32_of, w64_of, w8_of]) <;> first | omega | (split <;> omega) | (refine And.intro ?_ ?_ <;> split <;> omega))) (by (try dsimp only) <;> first | omega | ((try simp (disch := omega) only [w32_of, w64_of, w8_of]) <;> first | omega | (split <;> omega) | (refine And.intro ?_ ?_ <;> split <;> omega))) (fun x_16 e14 => ?_)
    have b15 : (-1) ≤ x_16 ∧ x_16 ≤ 2 := by rw [e14]; exact ii_kR_typeOf hσ _
    have c17 := w32_rng x_16
    refine wp_if (fun h16 => ?_) (fun h16 => ?_)
    · try simp (disch := omega) only [w32_of, w64_of, w8_of, decide_eq_true_eq, decide_eq_false_iff_not] at h16
      refine wp_bd (P := fun r => ((-1) ≤ r ∧ r ≤ 1)) ?_ ?_
      · refine wp_rdI (by (try dsimp only) <;> first | omega | ((try simp (disch := omega) only [w32_of, w64_of, w8_of]) <;> first | omega | (split <;> omega) | (refine And.intro ?_ ?_ <;> split <;> omega))) (by (try dsimp only) <;> first | omega | ((try simp (disch := omega) only [w32_of, w64_of, w8_of]) <;> first | omega | (split <;> omega) | (refine And.intro ?_ ?_ <;> split <;> omega))) (fun x_19 e18 => ?_)
        have b19 : 0 ≤ x_19 ∧ x_19 ≤ 4200 := by rw [e18]; exact ii_kR_segmentsOf hσ _
        have c21 := w32_rng x_19
        refine wp_if (fun h20 => ?_) (fun h20 => ?_)
        · try simp (disch := omega) only [w32_of, w64_of, w8_of, decide_eq_true_eq, decide_eq_false_iff_not] at h20
          exact wp_some (by (try dsimp only) <;> first | omega | ((try simp (disch := omega) only [w32_of, w64_of, w8_of]) <;> first | omega | (split <;> omega) | (refine And.intro ?_ ?_ <;> split <;> omega)))
        · try simp (disch := omega) only [w32_of, w64_of, w8_of, decide_eq_true_eq, decide_eq_false_iff_not] at h20
          exact wp_some (by (try dsimp only) <;> first | omega | ((try simp (disch := omega) only [w32_of, w64_of, w8_of]) <;> first | omega | (split <;> omega) | (refine And.intro ?_ ?_ <;> split <;> omega)))
      rintro x_24 _ g22
      exact wp_some (by (try dsimp only) <;> first | omega | ((try simp (disch := omega) only [w32_of, w64_of, w8_of]) <;> first | omega | (split <;> omega) | (refine And.intro ?_ ?_ <;> split <;> omega)))
    · try simp (disch := omega) only [w32_of, w64_of, w8_of, decide_eq_true_eq, decide_eq_false_iff_not] at h16
      refine wp_bd (P := fun r => ((-1) ≤ r ∧ r ≤ 2)) ?_ ?_
      · refine wp_rdI (by (try dsimp only) <;> first | omega | ((try simp (disch := omega) only [w32_of, w64_of, w8_of]) <;> first | omega | (split <;> omega) | (refine And.intro ?_ ?_ <;> split <;> omega))) (by (try dsimp only) <;> first | omega | ((try simp (disch := omega) only [w32_of, w64_of, w8_of]) <;> first | omega | (split <;> omega) | (refine And.intro ?_ ?_ <;> split <;> omega))) (fun x_29 e23 => ?_)
        have b24 : 0 ≤ x_29 ∧ x_29 ≤ 1 := by rw [e23]; exact ii_kR_hasInside hσ _
        refine wp_if (fun h25 => ?_) (fun h25 => ?_)
        · try simp (disch := omega) only [w32_of, w64_of, w8_of, decide_eq_true_eq, decide_eq_false_iff_not] at h25
          exact wp_some (by (try dsimp only) <;> first | omega | ((try simp (disch := omega) only [w32_of, w64_of, w8_of]) <;> first | omega | (split <;> omega) | (refine And.intro ?_ ?_ <;> split <;> omega)))
        · try simp (disch := omega) only [w32_of, w64_of, w8_of, decide_eq_true_eq, decide_eq_false_iff_not] at h25
          exact wp_some (by (try dsimp only) <;> first | omega | ((try simp (disch := omega) only [w32_of, w64_of, w8_of]) <;> first | omega | (split <;> omega) | (refine And.intro ?_ ?_ <;> split <;> omega)))
      rintro x_34 _ g26
      exact wp_some (by (try dsimp only) <;> first | omega | ((try simp (disch := omega) only [w32_of, w64_of, w8_of]) <;> first | omega | (split <;> omega) | (refine And.intro ?_ ?_ <;> split <;> omega)))
theorem s_R_m {σ : SG} {k_0 : Int} (hσ : II σ) (qk_0 : 0 ≤ k_0 ∧ k_0 ≤ 7) : wp_ (fR_m σ k_0) (fun r => True) := by
  unfold fR_m
  refine wp_bd (P := fun r => True) ?_ ?_
  · have c1 := w32_rng k_0
    refine wp_rdI (by (try dsimp only) <;> first | omega | ((try simp (disch := omega) only [w32_of, w64_of, w8_of]) <;> first | omega | (split <;> omega) | (refine And.intro ?_ ?_ <;> split <;> omega))) (by (try dsimp only) <;> first | omega | ((try simp (disch := omega) only [w32_of, w64_of, w8_of]) <;> first | omega | (split <;> omega) | (refine And.intro ?_ ?_ <;> split <;> omega))) (fun x_1 e2 => ?_)
    have b3 : (-1) ≤ x_1 ∧ x_1 ≤ 2 := by rw [e2]; exact ii_kR_matrix hσ _
    have c5 := w32_rng x_1
    refine wp_if (fun h4 => ?_) (fun h4 => ?_)
    · try simp (disch := omega) only [w32_of, w64_of, w8_of, decide_eq_true_eq, decide_eq_false_iff_not] at h4
      exact wp_some True.intro
    · try simp (disch := omega) only [w32_of, w64_of, w8_of, decide_eq_true_eq, decide_eq_false_iff_not] at h4
      exact wp_some True.intro
  rintro x_6 _ g6
  exact wp_some True.intro
theorem s_R_isSo {σ : SG} {what_0 : Int} (hσ : II σ) (qwhat_0 : (-2147483648) ≤ what_0 ∧ what_0 ≤ 2147483647) : wp_ (fR_isSo σ what_0) (fun r => True) := by
  unfold fR_isSo
  refine wp_bd (s_R_dimension (σ := σ) (shape_0 := 0) hσ (by (try dsimp only) <;> first | omega | ((try simp (disch := omega) only [w32_of, w64_of, w8_of]) <;> first | omega | (split <;> omega) | (refine And.intro ?_ ?_ <;> split <;> omega)))) ?_
  rintro x_2 _ g1
  refine wp_bd (s_R_dimension (σ := σ) (shape_0 := 1) hσ (by (try dsimp only) <;> first | omega | ((try simp (disch := omega) only [w32_of, w64_of, w8_of]) <;> first | omega | (split <;> omega) | (refine And.intro ?_ ?_ <;> split <;> omega)))) ?_
  rintro x_4 _ g2
  refine wp_bd (P := fun r => True) ?_ ?_
  · refine wp_bd (s_R_m (σ := σ) (k_0 := 0) hσ (by (try dsimp only) <;> first | omega | ((try simp (disch := omega) only [w32_of, w64_of, w8_of]) <;> first | omega | (split <;> omega) | (refine And.intro ?_ ?_ <;> split <;> omega)))) ?_
    rintro x_6 _ g3
    refine wp_if (fun h4 => ?_) (fun h4 => ?_)
    · try simp (disch := omega) only [w32_of, w64_of, w8_of, decide_eq_true_eq, decide_eq_false_iff_not] at h4
      exact wp_some True.intro
    · try simp (disch := omega) only [w32_of, w64_of, w8_of, decide_eq_true_eq, decide_eq_false_iff_not] at h4
      refine wp_bd (s_R_m (σ := σ) (k_0 := 1) hσ (by (try dsimp only) <;> first | omega | ((try simp (disch := omega) only [w32_of, w64_of, w8_of]) <;> first | omega | (split <;> omega) | (refine And.intro ?_ ?_ <;> split <;> omega)))) ?_
      rintro x_10 _ g5
      refine wp_if (fun h6 => ?_) (fun h6 => ?_)
      · try simp (disch := omega) only [w32_of, w64_of, w8_of, decide_eq_true_eq, decide_eq_false_iff_not] at h6
        exact wp_some True.intro
      · try simp (disch := omega) only [w32_of, w64_of, w8_of, decide_eq_true_eq, decide_eq_false_iff_not] at h6
        refine wp_bd (s_R_m (σ := σ) (k_0 := 3) hσ (by (try dsimp only) <;> first | omega | ((try simp (disch := omega) only [w32_of, w64_of, w8_of]) <;> first | omega | (split <;> omega) | (refine And.intro ?_ ?_ <;> split <;> omega)))) ?_
        rintro x_14 _ g7
        refine wp_if (fun h8 => ?_) (fun h8 => ?_)
        · try simp (disch := omega) only [w32_of, w64_of, w8_of, decide_eq_true_eq, decide_eq_false_iff_not] at h8
          exact wp_some True.intro
        · try simp (disch := omega) only [w32_of, w64_of, w8_of, decide_eq_true_eq, decide_eq_false_iff_not] at h8
          refine wp_bd (s_R_m (σ := σ) (k_0 := 4) hσ (by (try dsimp only) <;> first | omega | ((try simp (disch := omega) only [w32_of, w64_of, w8_of]) <;> first | omega | (split <;> omega) | (refine And.intro ?_ ?_ <;> split <;> omega)))) ?_
          rintro x_18 _ g9
          refine wp_if (fun h10 => ?_) (fun h10 => ?_)
          · try simp (disch := omega) only [w32_of, w64_of, w8_of, decide_eq_true_eq, decide_eq_false_iff_not] at h10
            exact wp_some True.intro
          · try simp (disch := omega) only [w32_of, w64_of, w8_of, decide_eq_true_eq, decide_eq_false_iff_not] at h10
            exact wp_some True.intro
  rintro x_22 _ g11
  refine wp_bd (P := fun r => True) ?_ ?_
  · refine wp_bd (s_R_m (σ := σ) (k_0 := 2) hσ (by (try dsimp only) <;> first | omega | ((try simp (disch := omega) only [w32_of, w64_of, w8_of]) <;> first | omega | (split <;> omega) | (refine And.intro ?_ ?_ <;> split <;> omega)))) ?_
    rintro x_24 _ g12
    refine wp_if (fun h13 => ?_) (fun h13 => ?_)
    · try simp (disch := omega) only [w32_of, w64_of, w8_of, decide_eq_true_eq, decide_eq_false_iff_not] at h13
      exact wp_some True.intro
    · try simp (disch := omega) only [w32_of, w64_of, w8_of, decide_eq_true_eq, decide_eq_false_iff_not] at h13
      refine wp_bd (s_R_m (σ := σ) (k_0 := 5) hσ (by (try dsimp only) <;> first | omega | ((try simp (disch := omega) only [w32_of, w64_of, w8_of]) <;> first | omega | (split <;> omega) | (refine And.intro ?_ ?_ <;> split <;> omega)))) ?_
      rintro x_28 _ g14
      refine wp_if (fun h15 => ?_) (fun h15 => ?_)
      · try simp (disch := omega) only [w32_of, w64_of, w8_of, decide_eq_true_eq, decide_eq_false_iff_not] at h15
        exact wp_some True.intro
      · try simp (disch := omega) only [w32_of, w64_of, w8_of, decide_eq_true_eq, decide_eq_false_iff_not] at h15
        exact wp_some True.intro
  rintro x_32 _ g16
  refine wp_bd (P := fun r => True) ?_ ?_
  · refine wp_bd (s_R_m (σ := σ) (k_0 := 6) hσ (by (try dsimp only) <;> first | omega | ((try simp (disch := omega) only [w32_of, w64_of, w8_of]) <;> first | omega | (split <;> omega) | (refine And.intro ?_ ?_ <;> split <;> omega)))) ?_
    rintro x_34 _ g17
    refine wp_if (fun h18 => ?_) (fun h18 => ?_)
    · try simp (disch := omega) only [w32_of, w64_of, w8_of, decide_eq_true_eq, decide_eq_false_iff_not] at h18
      exact wp_some True.intro
    · try simp (disch := omega) only [w32_of, w64_of, w8_of, decide_eq_true_eq, decide_eq_false_iff_not] at h18
      refine wp_bd (s_R_m (σ := σ) (k_0 := 7) hσ (by (try dsimp only) <;> first | omega | ((try simp (disch := omega) only [w32_of, w64_of, w8_of]) <;> first | omega | (split <;> omega) | (refine And.intro ?_ ?_ <;> split <;> omega)))) ?_
      rintro x_38 _ g19
      refine wp_if (fun h20 => ?_) (fun h20 => ?_)
      · try simp (disch := omega) only [w32_of, w64_of, w8_of, decide_eq_true_eq, decide_eq_false_iff_not] at h20
        exact wp_some True.intro
      · try simp (disch := omega) only [w32_of, w64_of, w8_of, decide_eq_true_eq, decide_eq_false_iff_not] at h20
        exact wp_some True.intro
  rintro x_42 _ g21
  have c23 := w32_rng what_0
  refine wp_if (fun h22 => ?_) (fun h22 => ?_)
  · try simp (disch := omega) only [w32_of, w64_of, w8_of, decide_eq_true_eq, decide_eq_false_iff_not] at h22
    refine wp_bd (P := fun r => True) ?_ ?_
    · have c25 := w32_rng x_2
      refine wp_if (fun h24 => ?_) (fun h24 => ?_)
      · try simp (disch := omega) only [w32_of, w64_of, w8_of, decide_eq_true_eq, decide_eq_false_iff_not] at h24
        have c27 := w32_rng x_4
        refine wp_if (fun h26 => ?_) (fun h26 => ?_)
        · try simp (disch := omega) only [w32_of, w64_of, w8_of, decide_eq_true_eq, decide_eq_false_iff_not] at h26
          exact wp_some True.intro
        · try simp (disch := omega) only [w32_of, w64_of, w8_of, decide_eq_true_eq, decide_eq_false_iff_not] at h26
          refine wp_bd (s_R_m (σ := σ) (k_0 := 0) hσ (by (try dsimp only) <;> first | omega | ((try simp (disch := omega) only [w32_of, w64_of, w8_of]) <;> first | omega | (split <;> omega) | (refine And.intro ?_ ?_ <;> split <;> omega)))) ?_
          rintro x_48 _ g28
          refine wp_if (fun h29 => ?_) (fun h29 => ?_)
          · try simp (disch := omega) only [w32_of, w64_of, w8_of, decide_eq_true_eq, decide_eq_false_iff_not] at h29
            refine wp_if (fun h30 => ?_) (fun h30 => ?_)
            · try simp (disch := omega) only [w32_of, w64_of, w8_of, decide_eq_true_eq, decide_eq_false_iff_not] at h30
              refine wp_if (fun h31 => ?_) (fun h31 => ?_)
              · try simp (disch := omega) only [w32_of, w64_of, w8_of, decide_eq_true_eq, decide_eq_false_iff_not] at h31
                exact wp_some True.intro
              · try simp (disch := omega) only [w32_of, w64_of, w8_of, decide_eq_true_eq, decide_eq_false_iff_not] at h31
                exact wp_some True.intro
            · try simp (disch := omega) only [w32_of, w64_of, w8_of, decide_eq_true_eq, decide_eq_false_iff_not] at h30
              exact wp_some True.intro
          · try simp (disch := omega) only [w32_of, w64_of, w8_of, decide_eq_true_eq, decide_eq_false_iff_not] at h29
            exact wp_some True.intro
      · try simp (disch := omega) only [w32_of, w64_of, w8_of, decide_eq_true_eq, decide_eq_false_iff_not] at h24
        refine wp_bd (s_R_m (σ := σ) (k_0 := 0) hσ (by (try dsimp only) <;> first | omega | ((try simp (disch := omega) only [w32_of, w64_of, w8_of]) <;> first | omega | (split <;> omega) | (refine And.intro ?_ ?_ <;> split <;> omega)))) ?_
        rintro x_57 _ g32
        refine wp_if (fun h33 => ?_) (fun h33 => ?_)
        · try simp (disch := omega) only [w32_of, w64_of, w8_of, decide_eq_true_eq, decide_eq_false_iff_not] at h33
          refine wp_if (fun h34 => ?_) (fun h34 => ?_)
          · try simp (disch := omega) only [w32_of, w64_of, w8_of, decide_eq_true_eq, decide_eq_false_iff_not] at h34
            refine wp_if (fun h35 => ?_) (fun h35 => ?_)
            · try simp (disch := omega) only [w32_of, w64_of, w8_of, decide_eq_true_eq, decide_eq_false_iff_not] at h35
              exact wp_some True.intro
            · try simp (disch := omega) only [w32_of, w64_of, w8_of, decide_eq_true_eq, decide_eq_false_iff_not] at h35
              exact wp_some True.intro
          · try simp (disch := omega) only [w32_of, w64_of, w8_of, decide_eq_true_eq, decide_eq_false_iff_not] at h34
            exact wp_some True.intro
        · try simp (disch := omega) only [w32_of, w64_of, w8_of, decide_eq_true_eq, decide_eq_false_iff_not] at h33
          exact wp_some True.intro
    rintro x_65 _ g36
    exact wp_some True.intro
  · try simp (disch := omega) only [w32_of, w64_of, w8_of, decide_eq_true_eq, decide_eq_false_iff_not] at h22
    refine wp_if (fun h37 => ?_) (fun h37 => ?_)
    · try simp (disch := omega) only [w32_of, w64_of, w8_of, decide_eq_true_eq, decide_eq_false_iff_not] at h37
      exact wp_some True.intro
    · try simp (disch := omega) only [w32_of, w64_of, w8_of, decide_eq_true_eq, decide_eq_false_iff_not] at h37
      refine wp_if (fun h38 => ?_) (fun h38 => ?_)
      · try simp (disch := omega) only [w32_of, w64_of, w8_of, decide_eq_true_eq, decide_eq_false_iff_not] at h38
        refine wp_bd (P := fun r => True) ?_ ?_
        · refine wp_bd (s_R_m (σ := σ) (k_0 := 0) hσ (by (try dsimp only) <;> first | omega | ((try simp (disch := omega) only [w32_of, w64_of, w8_of]) <;> first | omega | (split <;> omega) | (refine And.intro ?_ ?_ <;> split <;> omega)))) ?_
          rintro x_75 _ g39
          refine wp_if (fun h40 => ?_) (fun h40 => ?_)
          · try simp (disch := omega) only [w32_of, w64_of, w8_of, decide_eq_true_eq, decide_eq_false_iff_not] at h40
            exact wp_some True.intro
          · try simp (disch := omega) only [w32_of, w64_of, w8_of, decide_eq_true_eq, decide_eq_false_iff_not] at h40
            refine wp_if (fun h41 => ?_) (fun h41 => ?_)
            · try simp (disch := omega) only [w32_of, w64_of, w8_of, decide_eq_true_eq, decide_eq_false_iff_not] at h41
              exact wp_some True.intro
            · try simp (disch := omega) only [w32_of, w64_of, w8_of, decide_eq_true_eq, decide_eq_false_iff_not] at h41
              exact wp_some True.intro
        rintro x_81 _ g42
        exact wp_some True.intro
      · try simp (disch := omega) only [w32_of, w64_of, w8_of, decide_eq_true_eq, decide_eq_false_iff_not] at h38
        refine wp_if (fun h43 => ?_) (fun h43 => ?_)
        · try simp (disch := omega) only [w32_of, w64_of, w8_of, decide_eq_true_eq, decide_eq_false_iff_not] at h43
          refine wp_bd (P := fun r => True) ?_ ?_
          · have c45 := w32_rng x_2
            have c46 := w32_rng x_4
            refine wp_if (fun h44 => ?_) (fun h44 => ?_)
            · try simp (disch := omega) only [w32_of, w64_of, w8_of, decide_eq_true_eq, decide_eq_false_iff_not] at h44
              refine wp_bd (P := fun r => True) ?_ ?_
              · refine wp_bd (s_R_m (σ := σ) (k_0 := 0) hσ (by (try dsimp only) <;> first | omega | ((try simp (disch := omega) only [w32_of, w64_of, w8_of]) <;> first | omega | (split <;> omega) | (refine And.intro ?_ ?_ <;> split <;> omega)))) ?_
                rintro x_163 _ g47
                refine wp_if (fun h48 => ?_) (fun h48 => ?_)
                · try simp (disch := omega) only [w32_of, w64_of, w8_of, decide_eq_true_eq, decide_eq_false_iff_not] at h48
                  refine wp_bd (s_R_m (σ := σ) (k_0 := 2) hσ (by (try dsimp only) <;> first | omega | ((try simp (disch := omega) only [w32_of, w64_of, w8_of]) <;> first | omega | (split <;> omega) | (refine And.intro ?_ ?_ <;> split <;> omega)))) ?_
                  rintro x_166 _ g49
                  refine wp_if (fun h50 => ?_) (fun h50 => ?_)
                  · try simp (disch := omega) only [w32_of, w64_of, w8_of, decide_eq_true_eq, decide_eq_false_iff_not] at h50
                    exact wp_some True.intro
                  · try simp (disch := omega) only [w32_of, w64_of, w8_of, decide_eq_true_eq, decide_eq_false_iff_not] at h50
                    exact wp_some True.intro
                · try simp (disch := omega) only [w32_of, w64_of, w8_of, decide_eq_true_eq, decide_eq_false_iff_not] at h48
                  exact wp_some True.intro
              rintro x_171 _ g51
              exact wp_some True.intro
            · try simp (disch := omega) only [w32_of, w64_of, w8_of, decide_eq_true_eq, decide_eq_false_iff_not] at h44
              refine wp_bd (P := fun r => True) ?_ ?_
              · refine wp_if (fun h52 => ?_) (fun h52 => ?_)
                · try simp (disch := omega) only [w32_of, w64_of, w8_of, decide_eq_true_eq, decide_eq_false_iff_not] at h52
                  refine wp_bd (P := fun r => True) ?_ ?_
                  · refine wp_bd (s_R_m (σ := σ) (k_0 := 0) hσ (by (try dsimp only) <;> first | omega | ((try simp (disch := omega) only [w32_of, w64_of, w8_of]) <;> first | omega | (split <;> omega) | (refine And.intro ?_ ?_ <;> split <;> omega)))) ?_
                    rintro x_205 _ g53
                    refine wp_if (fun h54 => ?_) (fun h54 => ?_)
                    · try simp (disch := omega) only [w32_of, w64_of, w8_of, decide_eq_true_eq, decide_eq_false_iff_not] at h54
                      refine wp_bd (s_R_m (σ := σ) (k_0 := 6) hσ (by (try dsimp only) <;> first | omega | ((try simp (disch := omega) only [w32_of, w64_of, w8_of]) <;> first | omega | (split <;> omega) | (refine And.intro ?_ ?_ <;> split <;> omega)))) ?_
                      rintro x_208 _ g55
                      refine wp_if (fun h56 => ?_) (fun h56 => ?_)
                      · try simp (disch := omega) only [w32_of, w64_of, w8_of, decide_eq_true_eq, decide_eq_false_iff_not] at h56
                        exact wp_some True.intro
                      · try simp (disch := omega) only [w32_of, w64_of, w8_of, decide_eq_true_eq, decide_eq_false_iff_not] at h56
                        exact wp_some True.intro
                    · try simp (disch := omega) only [w32_of, w64_of, w8_of, decide_eq_true_eq, decide_eq_false_iff_not] at h54
                      exact wp_some True.intro
                  rintro x_213 _ g57
                  exact wp_some True.intro
                · try simp (disch := omega) only [w32_of, w64_of, w8_of, decide_eq_true_eq, decide_eq_false_iff_not] at h52
                  refine wp_bd (P := fun r => True) ?_ ?_
                  · refine wp_if (fun h58 => ?_) (fun h58 => ?_)
                    · try simp (disch := omega) only [w32_of, w64_of, w8_of, decide_eq_true_eq, decide_eq_false_iff_not] at h58
                      refine wp_rdI (by (try dsimp only) <;> first | omega | ((try simp (disch := omega) only [w32_of, w64_of, w8_of]) <;> first | omega | (split <;> omega) | (refine And.intro ?_ ?_ <;> split <;> omega))) (by (try dsimp only) <;> first | omega | ((try simp (disch := omega) only [w32_of, w64_of, w8_of]) <;> first | omega | (split <;> omega) | (refine And.intro ?_ ?_ <;> split <;> omega))) (fun x_220 e59 => ?_)
                      have c61 := ii_kR_matrix hσ 0
                      have b60 : (-1) ≤ x_220 ∧ x_220 ≤ 2 := by rw [e59]; exact ii_kR_matrix hσ _
                      have c63 := w32_rng x_220
                      refine wp_if (fun h62 => ?_) (fun h62 => ?_)
                      · try simp (disch := omega) only [w32_of, w64_of, w8_of, decide_eq_true_eq, decide_eq_false_iff_not] at h62
                        exact wp_some True.intro
                      · try simp (disch := omega) only [w32_of, w64_of, w8_of, decide_eq_true_eq, decide_eq_false_iff_not] at h62
                        exact wp_some True.intro
                    · try simp (disch := omega) only [w32_of, w64_of, w8_of, decide_eq_true_eq, decide_eq_false_iff_not] at h58
                      exact wp_some True.intro
                  rintro x_226 _ g64
                  exact wp_some True.intro
              rintro x_232 _ g65
              exact wp_some True.intro
          rintro x_238 _ g66
          exact wp_some True.intro
        · try simp (disch := omega) only [w32_of, w64_of, w8_of, decide_eq_true_eq, decide_eq_false_iff_not] at h43
          refine wp_if (fun h67 => ?_) (fun h67 => ?_)
          · try simp (disch := omega) only [w32_of, w64_of, w8_of, decide_eq_true_eq, decide_eq_false_iff_not] at h67
            refine wp_bd (P := fun r => True) ?_ ?_
            · refine wp_bd (s_R_m (σ := σ) (k_0 := 0) hσ (by (try dsimp only) <;> first | omega | ((try simp (disch := omega) only [w32_of, w64_of, w8_of]) <;> first | omega | (split <;> omega) | (refine And.intro ?_ ?_ <;> split <;> omega)))) ?_
              rintro x_245 _ g68
              refine wp_if (fun h69 => ?_) (fun h69 => ?_)
              · try simp (disch := omega) only [w32_of, w64_of, w8_of, decide_eq_true_eq, decide_eq_false_iff_not] at h69
                refine wp_if (fun h70 => ?_) (fun h70 => ?_)
                · try simp (disch := omega) only [w32_of, w64_of, w8_of, decide_eq_true_eq, decide_eq_false_iff_not] at h70
                  exact wp_some True.intro
                · try simp (disch := omega) only [w32_of, w64_of, w8_of, decide_eq_true_eq, decide_eq_false_iff_not] at h70
                  exact wp_some True.intro
              · try simp (disch := omega) only [w32_of, w64_of, w8_of, decide_eq_true_eq, decide_eq_false_iff_not] at h69
                exact wp_some True.intro
            rintro x_251 _ g71
            exact wp_some True.intro
          · try simp (disch := omega) only [w32_of, w64_of, w8_of, decide_eq_true_eq, decide_eq_false_iff_not] at h67
            refine wp_if (fun h72 => ?_) (fun h72 => ?_)
            · try simp (disch := omega) only [w32_of, w64_of, w8_of, decide_eq_true_eq, decide_eq_false_iff_not] at h72
              refine wp_bd (P := fun r => True) ?_ ?_
              · refine wp_bd (s_R_m (σ := σ) (k_0 := 0) hσ (by (try dsimp only) <;> first | omega | ((try simp (disch := omega) only [w32_of, w64_of, w8_of]) <;> first | omega | (split <;> omega) | (refine And.intro ?_ ?_ <;> split <;> omega)))) ?_
                rintro x_258 _ g73
                refine wp_if (fun h74 => ?_) (fun h74 => ?_)
                · try simp (disch := omega) only [w32_of, w64_of, w8_of, decide_eq_true_eq, decide_eq_false_iff_not] at h74
                  refine wp_if (fun h75 => ?_) (fun h75 => ?_)
                  · try simp (disch := omega) only [w32_of, w64_of, w8_of, decide_eq_true_eq, decide_eq_false_iff_not] at h75
                    exact wp_some True.intro
                  · try simp (disch := omega) only [w32_of, w64_of, w8_of, decide_eq_true_eq, decide_eq_false_iff_not] at h75
                    exact wp_some True.intro
                · try simp (disch := omega) only [w32_of, w64_of, w8_of, decide_eq_true_eq, decide_eq_false_iff_not] at h74
                  exact wp_some True.intro
              rintro x_264 _ g76
              exact wp_some True.intro
            · try simp (disch := omega) only [w32_of, w64_of, w8_of, decide_eq_true_eq, decide_eq_false_iff_not] at h72
              refine wp_if (fun h77 => ?_) (fun h77 => ?_)
              · try simp (disch := omega) only [w32_of, w64_of, w8_of, decide_eq_true_eq, decide_eq_false_iff_not] at h77
                refine wp_bd (P := fun r => True) ?_ ?_
                · have c79 := w32_rng x_2
                  have c80 := w32_rng x_4
                  refine wp_if (fun h78 => ?_) (fun h78 => ?_)
                  · try simp (disch := omega) only [w32_of, w64_of, w8_of, decide_eq_true_eq, decide_eq_false_iff_not] at h78
                    refine wp_if (fun h81 => ?_) (fun h81 => ?_)
                    · try simp (disch := omega) only [w32_of, w64_of, w8_of, decide_eq_true_eq, decide_eq_false_iff_not] at h81
                      refine wp_rdI (by (try dsimp only) <;> first | omega | ((try simp (disch := omega) only [w32_of, w64_of, w8_of]) <;> first | omega | (split <;> omega) | (refine And.intro ?_ ?_ <;> split <;> omega))) (by (try dsimp only) <;> first | omega | ((try simp (disch := omega) only [w32_of, w64_of, w8_of]) <;> first | omega | (split <;> omega) | (refine And.intro ?_ ?_ <;> split <;> omega))) (fun x_272 e82 => ?_)
                      have c84 := ii_kR_matrix hσ 0
                      have b83 : (-1) ≤ x_272 ∧ x_272 ≤ 2 := by rw [e82]; exact ii_kR_matrix hσ _
                      have c86 := w32_rng x_272
                      refine wp_if (fun h85 => ?_) (fun h85 => ?_)
                      · try simp (disch := omega) only [w32_of, w64_of, w8_of, decide_eq_true_eq, decide_eq_false_iff_not] at h85
                        refine wp_bd (s_R_m (σ := σ) (k_0 := 2) hσ (by (try dsimp only) <;> first | omega | ((try simp (disch := omega) only [w32_of, w64_of, w8_of]) <;> first | omega | (split <;> omega) | (refine And.intro ?_ ?_ <;> split <;> omega)))) ?_
                        rintro x_276 _ g87
                        refine wp_if (fun h88 => ?_) (fun h88 => ?_)
                        · try simp (disch := omega) only [w32_of, w64_of, w8_of, decide_eq_true_eq, decide_eq_false_iff_not] at h88
                          refine wp_bd (s_R_m (σ := σ) (k_0 := 6) hσ (by (try dsimp only) <;> first | omega | ((try simp (disch := omega) only [w32_of, w64_of, w8_of]) <;> first | omega | (split <;> omega) | (refine And.intro ?_ ?_ <;> split <;> omega)))) ?_
                          rintro x_279 _ g89
                          refine wp_if (fun h90 => ?_) (fun h90 => ?_)
                          · try simp (disch := omega) only [w32_of, w64_of, w8_of, decide_eq_true_eq, decide_eq_false_iff_not] at h90
                            exact wp_some True.intro
                          · try simp (disch := omega) only [w32_of, w64_of, w8_of, decide_eq_true_eq, decide_eq_false_iff_not] at h90
                            exact wp_some True.intro
                        · try simp (disch := omega) only [w32_of, w64_of, w8_of, decide_eq_true_eq, decide_eq_false_iff_not] at h88
                          exact wp_some True.intro
                      · try simp (disch := omega) only [w32_of, w64_of, w8_of, decide_eq_true_eq, decide_eq_false_iff_not] at h85
                        exact wp_some True.intro
                    · try simp (disch := omega) only [w32_of, w64_of, w8_of, decide_eq_true_eq, decide_eq_false_iff_not] at h81
                      exact wp_some True.intro
                  · try simp (disch := omega) only [w32_of, w64_of, w8_of, decide_eq_true_eq, decide_eq_false_iff_not] at h78
                    exact wp_some True.intro
                rintro x_287 _ g91
                exact wp_some True.intro
              · try simp (disch := omega) only [w32_of, w64_of, w8_of, decide_eq_true_eq, decide_eq_false_iff_not] at h77
                refine wp_if (fun h92 => ?_) (fun h92 => ?_)
                · try simp (disch := omega) only [w32_of, w64_of, w8_of, decide_eq_true_eq, decide_eq_false_iff_not] at h92
                  exact wp_some True.intro
                · try simp (disch := omega) only [w32_of, w64_of, w8_of, decide_eq_true_eq, decide_eq_false_iff_not] at h92
                  exact wp_some True.intro
theorem s_R_gatherSpots {σ : SG} {slot_0 : Int} (hσ : II σ) (qslot_0 : 0 ≤ slot_0 ∧ slot_0 ≤ 31) : wp_ (fR_gatherSpots σ slot_0) (fun r => True ∧ II r.2 ∧ FR [kR_spotX, kR_spotY, kR_spots] σ r.2) := by
  unfold fR_gatherSpots
  refine wp_wfI hσ b_kR_spots (by (try dsimp only) <;> first | omega | ((try simp (disch := omega) only [w32_of, w64_of, w8_of]) <;> first | omega | (split <;> omega) | (refine And.intro ?_ ?_ <;> split <;> omega))) (fun σ_1 hσ_1 e1 => ?_)
  have f2 := FR_sg e1
  refine wp_bx (P := fun r => (0 ≤ r.1 ∧ r.1 ≤ 65536) ∧ II r.2 ∧ FR [kR_spotX, kR_spotY, kR_spots] σ_1 r.2) ?_ ?_
  · refine wp_whl (fun s => (0 ≤ s.1 ∧ s.1 ≤ 65536) ∧ II s.2 ∧ FR [kR_spotX, kR_spotY, kR_spots] σ_1 s.2) (fun s => (65537 - s.1).toNat) ⟨(by (try dsimp only) <;> first | omega | ((try simp (disch := omega) only [w32_of, w64_of, w8_of]) <;> first | omega | (split <;> omega) | (refine And.intro ?_ ?_ <;> split <;> omega))), hσ_1, (FR_refl _ _)⟩ ?_
    rintro ⟨k_2, σ_3⟩ y5
    dsimp only at y5 ⊢
    obtain ⟨g3, hσ_3, f4⟩ := y5
    have c6 := w32_rng slot_0
    refine wp_rdI (by (try dsimp only) <;> first | omega | ((try simp (disch := omega) only [w32_of, w64_of, w8_of]) <;> first | omega | (split <;> omega) | (refine And.intro ?_ ?_ <;> split <;> omega))) (by (try dsimp only) <;> first | omega | ((try simp (disch := omega) only [w32_of, w64_of, w8_of]) <;> first | omega | (split <;> omega) | (refine And.intro ?_ ?_ <;> split <;> omega))) (fun x_11 e7 => ?_)
    have b8 : 0 ≤ x_11 ∧ x_11 ≤ 2048 := by rw [e7]; exact ii_kR_pointMany hσ_3 _
    have c10 := w32_rng k_2
    have c11 := w32_rng ((2048 * slot_0) + x_11)
    refine wp_if (fun h9 => ?_) (fun h9 => ?_)
    · try simp (disch := omega) only [w32_of, w64_of, w8_of, decide_eq_true_eq, decide_eq_false_iff_not] at h9
      refine wp_bd (P := fun r => True ∧ (0 ≤ r.2 ∧ r.2 ≤ 1024)) ?_ ?_
      · refine wp_whl (fun s => True ∧ (0 ≤ s.2 ∧ s.2 ≤ 1024)) (fun s => (1025 - s.2).toNat) ⟨True.intro, (by (try dsimp only) <;> first | omega | ((try simp (disch := omega) only [w32_of, w64_of, w8_of]) <;> first | omega | (split <;> omega) | (refine And.intro ?_ ?_ <;> split <;> omega)))⟩ ?_
        rintro ⟨known_14, s_15⟩ y14
        dsimp only at y14 ⊢
        obtain ⟨g12, g13⟩ := y14
        have c16 := w32_rng s_15
        have c17 := ii_kR_spots hσ_3 0
        have c18 := w32_rng (σ_3 kR_spots 0)
        refine wp_if (fun h15 => ?_) (fun h15 => ?_)
        · try simp (disch := omega) only [w32_of, w64_of, w8_of, decide_eq_true_eq, decide_eq_false_iff_not] at h15
          refine wp_bd (P := fun r => True) ?_ ?_
          · refine wp_rdI (by (try dsimp only) <;> first | omega | ((try simp (disch := omega) only [w32_of, w64_of, w8_of]) <;> first | omega | (split <;> omega) | (refine And.intro ?_ ?_ <;> split <;> omega))) (by (try dsimp only) <;> first | omega | ((try simp (disch := omega) only [w32_of, w64_of, w8_of]) <;> first | omega | (split <;> omega) | (refine And.intro ?_ ?_ <;> split <;> omega))) (fun x_23 e19 => ?_)
            have b20 : (-1000000000) ≤ x_23 ∧ x_23 ≤ 1000000000 := by rw [e19]; exact ii_kR_spotX hσ_3 _
            refine wp_rdI (by (try dsimp only) <;> first | omega | ((try simp (disch := omega) only [w32_of, w64_of, w8_of]) <;> first | omega | (split <;> omega) | (refine And.intro ?_ ?_ <;> split <;> omega))) (by (try dsimp only) <;> first | omega | ((try simp (disch := omega) only [w32_of, w64_of, w8_of]) <;> first | omega | (split <;> omega) | (refine And.intro ?_ ?_ <;> split <;> omega))) (fun x_25 e21 => ?_)
            have b22 : (-1000000000) ≤ x_25 ∧ x_25 ≤ 1000000000 := by rw [e21]; exact ii_kR_xs hσ_3 _
            have c24 := w64_rng x_23
            have c25 := w32_rng x_25
            have c26 := w64_rng (w32 x_25)
            refine wp_if (fun h23 => ?_) (fun h23 => ?_)
            · try simp (disch := omega) only [w32_of, w64_of, w8_of, decide_eq_true_eq, decide_eq_false_iff_not] at h23
              refine wp_rdI (by (try dsimp only) <;> first | omega | ((try simp (disch := omega) only [w32_of, w64_of, w8_of]) <;> first | omega | (split <;> omega) | (refine And.intro ?_ ?_ <;> split <;> omega))) (by (try dsimp only) <;> first | omega | ((try simp (disch := omega) only [w32_of, w64_of, w8_of]) <;> first | omega | (split <;> omega) | (refine And.intro ?_ ?_ <;> split <;> omega))) (fun x_28 e27 => ?_)
              have b28 : (-1000000000) ≤ x_28 ∧ x_28 ≤ 1000000000 := by rw [e27]; exact ii_kR_spotY hσ_3 _
              refine wp_rdI (by (try dsimp only) <;> first | omega | ((try simp (disch := omega) only [w32_of, w64_of, w8_of]) <;> first | omega | (split <;> omega) | (refine And.intro ?_ ?_ <;> split <;> omega))) (by (try dsimp only) <;> first | omega | ((try simp (disch := omega) only [w32_of, w64_of, w8_of]) <;> first | omega | (split <;> omega) | (refine And.intro ?_ ?_ <;> split <;> omega))) (fun x_30 e29 => ?_)
              have b30 : (-1000000000) ≤ x_30 ∧ x_30 ≤ 1000000000 := by rw [e29]; exact ii_kR_ys hσ_3 _
              have c32 := w64_rng x_28
              have c33 := w32_rng x_30
              have c34 := w64_rng (w32 x_30)
              refine wp_if (fun h31 => ?_) (fun h31 => ?_)
              · try simp (disch := omega) only [w32_of, w64_of, w8_of, decide_eq_true_eq, decide_eq_false_iff_not] at h31
                exact wp_some True.intro
              · try simp (disch := omega) only [w32_of, w64_of, w8_of, decide_eq_true_eq, decide_eq_false_iff_not] at h31
                exact wp_some True.intro
            · try simp (disch := omega) only [w32_of, w64_of, w8_of, decide_eq_true_eq, decide_eq_false_iff_not] at h23
              exact wp_some True.intro
          rintro x_36 _ g35
          exact wp_some ⟨fun _ e => by cases e; exact ⟨⟨True.intro, (by (try dsimp only) <;> first | omega | ((try simp (disch := omega) only [w32_of, w64_of, w8_of]) <;> first | omega | (split <;> omega) | (refine And.intro ?_ ?_ <;> split <;> omega)))⟩, by (try dsimp only) <;> first | omega | ((try simp (disch := omega) only [w32_of, w64_of, w8_of]) <;> first | omega | (split <;> omega) | (refine And.intro ?_ ?_ <;> split <;> omega))⟩, fun _ e => (by cases e)⟩
        · try simp (disch := omega) only [w32_of, w64_of, w8_of, decide_eq_true_eq, decide_eq_false_iff_not] at h15
          exact wp_some ⟨fun _ e => (by cases e), fun _ e => by cases e; exact ⟨True.intro, (by (try dsimp only) <;> first | omega | ((try simp (disch := omega) only [w32_of, w64_of, w8_of]) <;> first | omega | (split <;> omega) | (refine And.intro ?_ ?_ <;> split <;> omega)))⟩⟩
      rintro ⟨known_50, s_51⟩ _ y38
      dsimp only at y38 ⊢
      obtain ⟨g36, g37⟩ := y38
      refine wp_if (fun h39 => ?_) (fun h39 => ?_)
      · try simp (disch := omega) only [w32_of, w64_of, w8_of, decide_eq_true_eq, decide_eq_false_iff_not] at h39
        exact wp_some ⟨fun _ e => by cases e; exact ⟨⟨(by (try dsimp only) <;> first | omega | ((try simp (disch := omega) only [w32_of, w64_of, w8_of]) <;> first | omega | (split <;> omega) | (refine And.intro ?_ ?_ <;> split <;> omega))), hσ_3, (FR_le (ms := [kR_spotX, kR_spotY, kR_spots]) f4 (by decide))⟩, by (try dsimp only) <;> first | omega | ((try simp (disch := omega) only [w32_of, w64_of, w8_of]) <;> first | omega | (split <;> omega) | (refine And.intro ?_ ?_ <;> split <;> omega))⟩, fun _ e => (by cases e)⟩
      · try simp (disch := omega) only [w32_of, w64_of, w8_of, decide_eq_true_eq, decide_eq_false_iff_not] at h39
        have c41 := ii_kR_spots hσ_3 0
        have c42 := w32_rng (σ_3 kR_spots 0)
        refine wp_if (fun h40 => ?_) (fun h40 => ?_)
        · try simp (disch := omega) only [w32_of, w64_of, w8_of, decide_eq_true_eq, decide_eq_false_iff_not] at h40
          exact wp_some ⟨fun _ e => (by cases e), fun _ e => by cases e; exact ⟨fun _ e => (by cases e), fun _ e => by cases e; exact ⟨True.intro, hσ_3, (FR_tr (ms := [kR_spotX, kR_spotY, kR_spots]) (FR_le (ms := [kR_spotX, kR_spotY, kR_spots]) f2 (by decide)) f4 (by decide) (by decide))⟩⟩⟩
        · try simp (disch := omega) only [w32_of, w64_of, w8_of, decide_eq_true_eq, decide_eq_false_iff_not] at h40
          refine wp_rdI (by (try dsimp only) <;> first | omega | ((try simp (disch := omega) only [w32_of, w64_of, w8_of]) <;> first | omega | (split <;> omega) | (refine And.intro ?_ ?_ <;> split <;> omega))) (by (try dsimp only) <;> first | omega | ((try simp (disch := omega) only [w32_of, w64_of, w8_of]) <;> first | omega | (split <;> omega) | (refine And.intro ?_ ?_ <;> split <;> omega))) (fun x_55 e43 => ?_)
          have b44 : (-1000000000) ≤ x_55 ∧ x_55 ≤ 1000000000 := by rw [e43]; exact ii_kR_xs hσ_3 _
          have c45 := w32_rng x_55
          refine wp_waI hσ_3 b_kR_spotX (by (try dsimp only) <;> first | omega | ((try simp (disch := omega) only [w32_of, w64_of, w8_of]) <;> first | omega | (split <;> omega) | (refine And.intro ?_ ?_ <;> split <;> omega))) (by (try dsimp only) <;> first | omega | ((try simp (disch := omega) only [w32_of, w64_of, w8_of]) <;> first | omega | (split <;> omega) | (refine And.intro ?_ ?_ <;> split <;> omega))) (by (try dsimp only) <;> first | omega | ((try simp (disch := omega) only [w32_of, w64_of, w8_of]) <;> first | omega | (split <;> omega) | (refine And.intro ?_ ?_ <;> split <;> omega))) (fun σ_57 hσ_57 e46 => ?_)
          have f47 := FR_sg e46
          refine wp_rdI (by (try dsimp only) <;> first | omega | ((try simp (disch := omega) only [w32_of, w64_of, w8_of]) <;> first | omega | (split <;> omega) | (refine And.intro ?_ ?_ <;> split <;> omega))) (by (try dsimp only) <;> first | omega | ((try simp (disch := omega) only [w32_of, w64_of, w8_of]) <;> first | omega | (split <;> omega) | (refine And.intro ?_ ?_ <;> split <;> omega))) (fun x_59 e48 => ?_)
          have b49 : (-1000000000) ≤ x_59 ∧ x_59 ≤ 1000000000 := by rw [e48]; exact ii_kR_ys hσ_57 _
          have c50 := w32_rng x_59
          have c51 := ii_kR_spots hσ_57 0
          have c52 := FR_at f47 (c := kR_spots) (by decide) 0
          have c53 := w32_rng (σ_57 kR_spots 0)
          refine wp_waI hσ_57 b_kR_spotY (by (try dsimp only) <;> first | omega | ((try simp (disch := omega) only [w32_of, w64_of, w8_of]) <;> first | omega | (split <;> omega) | (refine And.intro ?_ ?_ <;> split <;> omega))) (by (try dsimp only) <;> first | omega | ((try simp (disch := omega) only [w32_of, w64_of, w8_of]) <;> first | omega | (split <;> omega) | (refine And.intro ?_ ?_ <;> split <;> omega))) (by (try dsimp only) <;> first | omega | ((try simp (disch := omega) only [w32_of, w64_of, w8_of]) <;> first | omega | (split <;> omega) | (refine And.intro ?_ ?_ <;> split <;> omega))) (fun σ_61 hσ_61 e54 => ?_)
          have f55 := FR_sg e54
          have c56 := ii_kR_spots hσ_61 0
          have c57 := FR_at f55 (c := kR_spots) (by decide) 0
          refine wp_wfI hσ_61 b_kR_spots (by (try dsimp only) <;> first | omega | ((try simp (disch := omega) only [w32_of, w64_of, w8_of]) <;> first | omega | (split <;> omega) | (refine And.intro ?_ ?_ <;> split <;> omega))) (fun σ_63 hσ_63 e58 => ?_)
          have f59 := FR_sg e58
          exact wp_some ⟨fun _ e => by cases e; exact ⟨⟨(by (try dsimp only) <;> first | omega | ((try simp (disch := omega) only [w32_of, w64_of, w8_of]) <;> first | omega | (split <;> omega) | (refine And.intro ?_ ?_ <;> split <;> omega))), hσ_63, (FR_tr (ms := [kR_spotX, kR_spotY, kR_spots]) (FR_tr (ms := [kR_spotX, kR_spotY, kR_spots]) (FR_tr (ms := [kR_spotX, kR_spotY, kR_spots]) (FR_le (ms := [kR_spotX, kR_spotY, kR_spots]) f4 (by decide)) f47 (by decide) (by decide)) f55 (by decide) (by decide)) f59 (by decide) (by decide))⟩, by (try dsimp only) <;> first | omega | ((try simp (disch := omega) only [w32_of, w64_of, w8_of]) <;> first | omega | (split <;> omega) | (refine And.intro ?_ ?_ <;> split <;> omega))⟩, fun _ e => (by cases e)⟩
    · try simp (disch := omega) only [w32_of, w64_of, w8_of, decide_eq_true_eq, decide_eq_false_iff_not] at h9
      exact wp_some ⟨fun _ e => (by cases e), fun _ e => by cases e; exact ⟨fun _ e => by cases e; exact ⟨(by (try dsimp only) <;> first | omega | ((try simp (disch := omega) only [w32_of, w64_of, w8_of]) <;> first | omega | (split <;> omega) | (refine And.intro ?_ ?_ <;> split <;> omega))), hσ_3, (FR_le (ms := [kR_spotX, kR_spotY, kR_spots]) f4 (by decide))⟩, fun _ e => (by cases e)⟩⟩
  rintro ⟨k_67, σ_68⟩ y62
  dsimp only at y62 ⊢
  obtain ⟨g60, hσ_68, f61⟩ := y62
  exact wp_some ⟨True.intro, hσ_68, (FR_tr (ms := [kR_spotX, kR_spotY, kR_spots]) (FR_le (ms := [kR_spotX, kR_spotY, kR_spots]) f2 (by decide)) f61 (by decide) (by decide))⟩
theorem s_R_isLess {σ : SG} {a_0 : Int} {b_0 : Int} (hσ : II σ) (qa_0 : 0 ≤ a_0 ∧ a_0 ≤ 1023) (qb_0 : 0 ≤ b_0 ∧ b_0 ≤ 1023) : wp_ (fR_isLess σ a_0 b_0) (fun r => True) := by
  unfold fR_isLess
  have c1 := w32_rng a_0
  refine wp_rdI (by (try dsimp only) <;> first | omega | ((try simp (disch := omega) only [w32_of, w64_of, w8_of]) <;> first | omega | (split <;> omega) | (refine And.intro ?_ ?_ <;> split <;> omega))) (by (try dsimp only) <;> first | omega | ((try simp (disch := omega) only [w32_of, w64_of, w8_of]) <;> first | omega | (split <;> omega) | (refine And.intro ?_ ?_ <;> split <;> omega))) (fun x_1 e2 => ?_)
  have b3 : (-1000000000) ≤ x_1 ∧ x_1 ≤ 1000000000 := by rw [e2]; exact ii_kR_spotX hσ _
  refine wp_rdI (by (try dsimp only) <;> first | omega | ((try simp (disch := omega) only [w32_of, w64_of, w8_of]) <;> first | omega | (split <;> omega) | (refine And.intro ?_ ?_ <;> split <;> omega))) (by (try dsimp only) <;> first | omega | ((try simp (disch := omega) only [w32_of, w64_of, w8_of]) <;> first | omega | (split <;> omega) | (refine And.intro ?_ ?_ <;> split <;> omega))) (fun x_3 e4 => ?_)
  have b5 : (-1000000000) ≤ x_3 ∧ x_3 ≤ 1000000000 := by rw [e4]; exact ii_kR_spotY hσ _
  have c6 := w32_rng b_0
  refine wp_rdI (by (try dsimp only) <;> first | omega | ((try simp (disch := omega) only [w32_of, w64_of, w8_of]) <;> first | omega | (split <;> omega) | (refine And.intro ?_ ?_ <;> split <;> omega))) (by (try dsimp only) <;> first | omega | ((try simp (disch := omega) only [w32_of, w64_of, w8_of]) <;> first | omega | (split <;> omega) | (refine And.intro ?_ ?_ <;> split <;> omega))) (fun x_5 e7 => ?_)
  have b8 : (-1000000000) ≤ x_5 ∧ x_5 ≤ 1000000000 := by rw [e7]; exact ii_kR_spotX hσ _
  refine wp_rdI (by (try dsimp only) <;> first | omega | ((try simp (disch := omega) only [w32_of, w64_of, w8_of]) <;> first | omega | (split <;> omega) | (refine And.intro ?_ ?_ <;> split <;> omega))) (by (try dsimp only) <;> first | omega | ((try simp (disch := omega) only [w32_of, w64_of, w8_of]) <;> first | omega | (split <;> omega) | (refine And.intro ?_ ?_ <;> split <;> omega))) (fun x_7 e9 => ?_)
  have b10 : (-1000000000) ≤ x_7 ∧ x_7 ≤ 1000000000 := by rw [e9]; exact ii_kR_spotY hσ _
  exact wp_some True.intro
theorem s_R_leastSpot {σ : SG} (hσ : II σ) : wp_ (fR_leastSpot σ) (fun r => (0 ≤ r ∧ r ≤ 1023)) := by
  unfold fR_leastSpot
  refine wp_bd (P := fun r => (0 ≤ r.1 ∧ r.1 ≤ 1023) ∧ (1 ≤ r.2 ∧ r.2 ≤ 1024)) ?_ ?_
  · refine wp_whl (fun s => (0 ≤ s.1 ∧ s.1 ≤ 1023) ∧ (1 ≤ s.2 ∧ s.2 ≤ 1024)) (fun s => (1025 - s.2).toNat) ⟨(by (try dsimp only) <;> first | omega | ((try simp (disch := omega) only [w32_of, w64_of, w8_of]) <;> first | omega | (split <;> omega) | (refine And.intro ?_ ?_ <;> split <;> omega))), (by (try dsimp only) <;> first | omega | ((try simp (disch := omega) only [w32_of, w64_of, w8_of]) <;> first | omega | (split <;> omega) | (refine And.intro ?_ ?_ <;> split <;> omega)))⟩ ?_
    rintro ⟨least_1, k_2⟩ y3
    dsimp only at y3 ⊢
    obtain ⟨g1, g2⟩ := y3
    have c5 := w32_rng k_2
    have c6 := ii_kR_spots hσ 0
    have c7 := w32_rng (σ kR_spots 0)
    refine wp_if (fun h4 => ?_) (fun h4 => ?_)
    · try simp (disch := omega) only [w32_of, w64_of, w8_of, decide_eq_true_eq, decide_eq_false_iff_not] at h4
      refine wp_bd (P := fun r => (0 ≤ r ∧ r ≤ 1023)) ?_ ?_
      · refine wp_bd (s_R_isLess (σ := σ) (a_0 := k_2) (b_0 := least_1) hσ (by (try dsimp only) <;> first | omega | ((try simp (disch := omega) only [w32_of, w64_of, w8_of]) <;> first | omega | (split <;> omega) | (refine And.intro ?_ ?_ <;> split <;> omega))) (by (try dsimp only) <;> first | omega | ((try simp (disch := omega) only [w32_of, w64_of, w8_of]) <;> first | omega | (split <;> omega) | (refine And.intro ?_ ?_ <;> split <;> omega)))) ?_
        rintro x_12 _ g8
        refine wp_if (fun h9 => ?_) (fun h9 => ?_)
        · try simp (disch := omega) only [w32_of, w64_of, w8_of, decide_eq_true_eq, decide_eq_false_iff_not] at h9
          exact wp_some (by (try dsimp only) <;> first | omega | ((try simp (disch := omega) only [w32_of, w64_of, w8_of]) <;> first | omega | (split <;> omega) | (refine And.intro ?_ ?_ <;> split <;> omega)))
        · try simp (disch := omega) only [w32_of, w64_of, w8_of, decide_eq_true_eq, decide_eq_false_iff_not] at h9
          exact wp_some (by (try dsimp only) <;> first | omega | ((try simp (disch := omega) only [w32_of, w64_of, w8_of]) <;> first | omega | (split <;> omega) | (refine And.intro ?_ ?_ <;> split <;> omega)))
      rintro x_16 _ g10
      exact wp_some ⟨fun _ e => by cases e; exact ⟨⟨(by (try dsimp only) <;> first | omega | ((try simp (disch := omega) only [w32_of, w64_of, w8_of]) <;> first | omega | (split <;> omega) | (refine And.intro ?_ ?_ <;> split <;> omega))), (by (try dsimp only) <;> first | omega | ((try simp (disch := omega) only [w32_of, w64_of, w8_of]) <;> first | omega | (split <;> omega) | (refine And.intro ?_ ?_ <;> split <;> omega)))⟩, by (try dsimp only) <;> first | omega | ((try simp (disch := omega) only [w32_of, w64_of, w8_of]) <;> first | omega | (split <;> omega) | (refine And.intro ?_ ?_ <;> split <;> omega))⟩, fun _ e => (by cases e)⟩
    · try simp (disch := omega) only [w32_of, w64_of, w8_of, decide_eq_true_eq, decide_eq_false_iff_not] at h4
      exact wp_some ⟨fun _ e => (by cases e), fun _ e => by cases e; exact ⟨(by (try dsimp only) <;> first | omega | ((try simp (disch := omega) only [w32_of, w64_of, w8_of]) <;> first | omega | (split <;> omega) | (refine And.intro ?_ ?_ <;> split <;> omega))), (by (try dsimp only) <;> first | omega | ((try simp (disch := omega) only [w32_of, w64_of, w8_of]) <;> first | omega | (split <;> omega) | (refine And.intro ?_ ?_ <;> split <;> omega)))⟩⟩
  rintro ⟨least_23, k_24⟩ _ y13
  dsimp only at y13 ⊢
  obtain ⟨g11, g12⟩ := y13
  exact wp_some (by (try dsimp only) <;> first | omega | ((try simp (disch := omega) only [w32_of, w64_of, w8_of]) <;> first | omega | (split <;> omega) | (refine And.intro ?_ ?_ <;> split <;> omega)))
theorem s_R_isLater {σ : SG} {k_0 : Int} {a_0 : Int} {b_0 : Int} {c_0 : Int} (hσ : II σ) (qk_0 : 0 ≤ k_0 ∧ k_0 ≤ 2099) (qa_0 : 0 ≤ a_0 ∧ a_0 ≤ 1023) (qb_0 : 0 ≤ b_0 ∧ b_0 ≤ 1023) (qc_0 : 0 ≤ c_0 ∧ c_0 ≤ 1023) : wp_ (fR_isLater σ k_0 a_0 b_0 c_0) (fun r => True) := by
  unfold fR_isLater
  have c1 := w32_rng k_0
  refine wp_rdI (by (try dsimp only) <;> first | omega | ((try simp (disch := omega) only [w32_of, w64_of, w8_of]) <;> first | omega | (split <;> omega) | (refine And.intro ?_ ?_ <;> split <;> omega))) (by (try dsimp only) <;> first | omega | ((try simp (disch := omega) only [w32_of, w64_of, w8_of]) <;> first | omega | (split <;> omega) | (refine And.intro ?_ ?_ <;> split <;> omega))) (fun x_1 e2 => ?_)
  have b3 : 0 ≤ x_1 ∧ x_1 ≤ 1023 := by rw [e2]; exact ii_kR_triangleA hσ _
  have c5 := w32_rng x_1
  have c6 := w32_rng a_0
  refine wp_if (fun h4 => ?_) (fun h4 => ?_)
  · try simp (disch := omega) only [w32_of, w64_of, w8_of, decide_eq_true_eq, decide_eq_false_iff_not] at h4
    refine wp_bd (P := fun r => True) ?_ ?_
    · refine wp_rdI (by (try dsimp only) <;> first | omega | ((try simp (disch := omega) only [w32_of, w64_of, w8_of]) <;> first | omega | (split <;> omega) | (refine And.intro ?_ ?_ <;> split <;> omega))) (by (try dsimp only) <;> first | omega | ((try simp (disch := omega) only [w32_of, w64_of, w8_of]) <;> first | omega | (split <;> omega) | (refine And.intro ?_ ?_ <;> split <;> omega))) (fun x_4 e7 => ?_)
      have b8 : 0 ≤ x_4 ∧ x_4 ≤ 1023 := by rw [e7]; exact ii_kR_triangleA hσ _
      have c10 := w32_rng x_4
      refine wp_if (fun h9 => ?_) (fun h9 => ?_)
      · try simp (disch := omega) only [w32_of, w64_of, w8_of, decide_eq_true_eq, decide_eq_false_iff_not] at h9
        exact wp_some True.intro
      · try simp (disch := omega) only [w32_of, w64_of, w8_of, decide_eq_true_eq, decide_eq_false_iff_not] at h9
        exact wp_some True.intro
    rintro x_9 _ g11
    exact wp_some True.intro
  · try simp (disch := omega) only [w32_of, w64_of, w8_of, decide_eq_true_eq, decide_eq_false_iff_not] at h4
    refine wp_bd (P := fun r => True) ?_ ?_
    · refine wp_rdI (by (try dsimp only) <;> first | omega | ((try simp (disch := omega) only [w32_of, w64_of, w8_of]) <;> first | omega | (split <;> omega) | (refine And.intro ?_ ?_ <;> split <;> omega))) (by (try dsimp only) <;> first | omega | ((try simp (disch := omega) only [w32_of, w64_of, w8_of]) <;> first | omega | (split <;> omega) | (refine And.intro ?_ ?_ <;> split <;> omega))) (fun x_14 e12 => ?_)
      have b13 : 0 ≤ x_14 ∧ x_14 ≤ 1023 := by rw [e12]; exact ii_kR_triangleB hσ _
      have c15 := w32_rng x_14
      have c16 := w32_rng b_0
      refine wp_if (fun h14 => ?_) (fun h14 => ?_)
      · try simp (disch := omega) only [w32_of, w64_of, w8_of, decide_eq_true_eq, decide_eq_false_iff_not] at h14
        refine wp_bd (P := fun r => True) ?_ ?_
        · refine wp_rdI (by (try dsimp only) <;> first | omega | ((try simp (disch := omega) only [w32_of, w64_of, w8_of]) <;> first | omega | (split <;> omega) | (refine And.intro ?_ ?_ <;> split <;> omega))) (by (try dsimp only) <;> first | omega | ((try simp (disch := omega) only [w32_of, w64_of, w8_of]) <;> first | omega | (split <;> omega) | (refine And.intro ?_ ?_ <;> split <;> omega))) (fun x_17 e17 => ?_)
          have b18 : 0 ≤ x_17 ∧ x_17 ≤ 1023 := by rw [e17]; exact ii_kR_triangleB hσ _
          have c20 := w32_rng x_17
          refine wp_if (fun h19 => ?_) (fun h19 => ?_)
          · try simp (disch := omega) only [w32_of, w64_of, w8_of, decide_eq_true_eq, decide_eq_false_iff_not] at h19
            exact wp_some True.intro
          · try simp (disch := omega) only [w32_of, w64_of, w8_of, decide_eq_true_eq, decide_eq_false_iff_not] at h19
            exact wp_some True.intro
        rintro x_22 _ g21
        exact wp_some True.intro
      · try simp (disch := omega) only [w32_of, w64_of, w8_of, decide_eq_true_eq, decide_eq_false_iff_not] at h14
        refine wp_bd (P := fun r => True) ?_ ?_
        · refine wp_rdI (by (try dsimp only) <;> first | omega | ((try simp (disch := omega) only [w32_of, w64_of, w8_of]) <;> first | omega | (split <;> omega) | (refine And.intro ?_ ?_ <;> split <;> omega))) (by (try dsimp only) <;> first | omega | ((try simp (disch := omega) only [w32_of, w64_of, w8_of]) <;> first | omega | (split <;> omega) | (refine And.intro ?_ ?_ <;> split <;> omega))) (fun x_28 e22 => ?_)
          have b23 : 0 ≤ x_28 ∧ x_28 ≤ 1023 := by rw [e22]; exact ii_kR_triangleC hσ _
          have c25 := w32_rng c_0
          have c26 := w32_rng x_28
          refine wp_if (fun h24 => ?_) (fun h24 => ?_)
          · try simp (disch := omega) only [w32_of, w64_of, w8_of, decide_eq_true_eq, decide_eq_false_iff_not] at h24
            exact wp_some True.intro
          · try simp (disch := omega) only [w32_of, w64_of, w8_of, decide_eq_true_eq, decide_eq_false_iff_not] at h24
            exact wp_some True.intro
        rintro x_33 _ g27
        exact wp_some True.intro
    rintro x_39 _ g28
    exact wp_some True.intro
theorem s_R_dotSpot {σ : SG} {k_0 : Int} (hσ : II σ) (qk_0 : 0 ≤ k_0 ∧ k_0 ≤ 1023) (w0 : ((σ kR_pointMany 32) ≤ 2047)) : wp_ (fR_dotSpot σ k_0) (fun r => II r ∧ FR [kR_pointMany, kR_xs, kR_ys] σ r ∧ ((r kR_pointMany 32) = ((σ kR_pointMany 32) + 1))) := by
  unfold fR_dotSpot
  have c1 := ii_kR_pointMany hσ 32
  have c2 := w32_rng k_0
  refine wp_rdI (by (try dsimp only) <;> first | omega | ((try simp (disch := omega) only [w32_of, w64_of, w8_of]) <;> first | omega | (split <;> omega) | (refine And.intro ?_ ?_ <;> split <;> omega))) (by (try dsimp only) <;> first | omega | ((try simp (disch := omega) only [w32_of, w64_of, w8_of]) <;> first | omega | (split <;> omega) | (refine And.intro ?_ ?_ <;> split <;> omega))) (fun x_1 e3 => ?_)
  have b4 : (-1000000000) ≤ x_1 ∧ x_1 ≤ 1000000000 := by rw [e3]; exact ii_kR_spotX hσ _
  refine wp_rdI (by (try dsimp only) <;> first | omega | ((try simp (disch := omega) only [w32_of, w64_of, w8_of]) <;> first | omega | (split <;> omega) | (refine And.intro ?_ ?_ <;> split <;> omega))) (by (try dsimp only) <;> first | omega | ((try simp (disch := omega) only [w32_of, w64_of, w8_of]) <;> first | omega | (split <;> omega) | (refine And.intro ?_ ?_ <;> split <;> omega))) (fun x_3 e5 => ?_)
  have b6 : (-1000000000) ≤ x_3 ∧ x_3 ≤ 1000000000 := by rw [e5]; exact ii_kR_spotY hσ _
  refine wp_bd (s_R_dot (σ := σ) (x_0 := x_1) (y_0 := x_3) hσ (by (try dsimp only) <;> first | omega | ((try simp (disch := omega) only [w32_of, w64_of, w8_of]) <;> first | omega | (split <;> omega) | (refine And.intro ?_ ?_ <;> split <;> omega))) (by (try dsimp only) <;> first | omega | ((try simp (disch := omega) only [w32_of, w64_of, w8_of]) <;> first | omega | (split <;> omega) | (refine And.intro ?_ ?_ <;> split <;> omega))) (by (try dsimp only) <;> first | omega | ((try simp (disch := omega) only [w32_of, w64_of, w8_of]) <;> first | omega | (split <;> omega) | (refine And.intro ?_ ?_ <;> split <;> omega))) (by (try dsimp only) <;> first | omega | ((try simp (disch := omega) only [w32_of, w64_of, w8_of]) <;> first | omega | (split <;> omega) | (refine And.intro ?_ ?_ <;> split <;> omega))) (by (try dsimp only) <;> first | omega | ((try simp (disch := omega) only [w32_of, w64_of, w8_of]) <;> first | omega | (split <;> omega) | (refine And.intro ?_ ?_ <;> split <;> omega)))) ?_
  rintro σ_6 _ ⟨hσ_6, f8, x7⟩
  have c9 := ii_kR_pointMany hσ_6 32
  exact wp_some ⟨hσ_6, (FR_le (ms := [kR_pointMany, kR_xs, kR_ys]) f8 (by decide)), (by (try dsimp only) <;> first | omega | ((try simp (disch := omega) only [w32_of, w64_of, w8_of]) <;> first | omega | (split <;> omega) | (refine And.intro ?_ ?_ <;> split <;> omega)))⟩
