section CVP
theorem sgn_of {x V : Int} (h1 : -1 ≤ x ∧ x ≤ 1) (h2 : x = 0 ↔ V = 0) (h3 : 0 < x ↔ 0 < V) : x = Int.sign V := by
  rcases (show V < 0 ∨ V = 0 ∨ 0 < V by omega) with q | q | q
  · rw [Int.sign_eq_neg_one_of_neg q]; omega
  · rw [q]; show x = 0; omega
  · rw [Int.sign_eq_one_of_pos q]; omega
theorem sgn_b (V : Int) : -1 ≤ Int.sign V ∧ Int.sign V ≤ 1 := by
  rcases (show V < 0 ∨ V = 0 ∨ 0 < V by omega) with q | q | q
  · rw [Int.sign_eq_neg_one_of_neg q]; decide
  · rw [q]; decide
  · rw [Int.sign_eq_one_of_pos q]; decide
theorem RG_sg {σ : SG} {r v L : Int} (hσ : II σ) (g : RG σ r v L) : σ kR_sign r = Int.sign v := by
  have h := NR_sg hσ g.1
  have hs := ii_kR_sign hσ r
  rw [g.2.1] at h
  exact sgn_of hs h.1 h.2.1
theorem dfb_t (σ : SG) (p q : Int) : dfb_ σ true p q = ld_ (σ kR_signX p) - ld_ (σ kR_signX q) := by unfold dfb_; rw [if_pos rfl, if_pos rfl]
theorem dfb_f (σ : SG) (p q : Int) : dfb_ σ false p q = ld_ (σ kR_signY p) - ld_ (σ kR_signY q) := by unfold dfb_; rw [if_neg (by decide), if_neg (by decide)]
theorem FR_sxy {σ τ : SG} (f : FR [kR_limbs, kR_sign, kR_w] σ τ) : τ kR_signX = σ kR_signX ∧ τ kR_signY = σ kR_signY := ⟨funext fun i => FR_at f (by decide) i, funext fun i => FR_at f (by decide) i⟩
def okP (i : Int) : Prop := 0 ≤ i ∧ i < 32
theorem isP {i : Int} (qi : (-2147483648) ≤ i ∧ i ≤ 2147483647) : fR_isPoint i = true ↔ okP i := by
  unfold fR_isPoint okP
  rw [w32_of (x := i) (by omega) (by omega)]
  exact decide_eq_true_iff
theorem noP {i : Int} (qi : (-2147483648) ≤ i ∧ i ≤ 2147483647) : fQ_isNoSignPoint i = true ↔ ¬ okP i := by
  unfold fQ_isNoSignPoint okP
  rw [w32_of (x := i) (by omega) (by omega), decide_eq_true_iff]
  omega
theorem v_btw {σ : SG} {t p q : Int} {b : Bool} (hσ : II σ) (t0 : 0 ≤ t ∧ t ≤ 7) (p0 : okP p) (q0 : okP q) : wp_ (fR_between σ t b p q) (fun zz_ => II zz_ ∧ FR [kR_limbs, kR_sign, kR_w] σ zz_ ∧ RG zz_ t (dfb_ σ b p q) 67 ∧ KN [18, 19, t] σ zz_) := by
  unfold okP at p0 q0
  exact v_between hσ t0 ⟨p0.1, by omega⟩ ⟨q0.1, by omega⟩ ⟨t0.1, by omega⟩ p0 q0
theorem eR_side {σ : SG} {i j k : Int} (hσ : II σ) (qi : (-2147483648) ≤ i ∧ i ≤ 2147483647) (qj : (-2147483648) ≤ j ∧ j ≤ 2147483647) (qk : (-2147483648) ≤ k ∧ k ≤ 2147483647) : wp_ (fR_side σ i j k) (fun z => (¬ (okP i ∧ okP j ∧ okP k) → z.2 kR_thrown 0 = 1) ∧ (okP i ∧ okP j ∧ okP k → z.2 kR_thrown 0 = 0 ∧ z.1 = Int.sign (sdV (σ kR_signX) (σ kR_signY) i j k))) := by
  unfold fR_side
  refine wp_wfI hσ b_kR_thrown (by decide) (fun σ1 h1 e1 => ?_)
  refine wp_fails h1 (by rw [e1, sg_at]) (by decide) (fun σ4 h4 f4 a b => ?_)
  dsimp only
  have X4 : σ4 kR_signX = σ kR_signX := funext fun i => by rw [FR_at f4 (by decide), e1, sg_nc (by decide)]
  have Y4 : σ4 kR_signY = σ kR_signY := funext fun i => by rw [FR_at f4 (by decide), e1, sg_nc (by decide)]
  have hok : (((¬ (fR_isPoint i = true)) ∨ (¬ (fR_isPoint j = true))) ∨ (¬ (fR_isPoint k = true))) ↔ ¬ (okP i ∧ okP j ∧ okP k) := by
    rw [isP qi, isP qj, isP qk]
    by_cases x : okP i <;> by_cases y : okP j <;> by_cases z : okP k <;> simp [x, y, z]
  refine wp_if (fun c => ?_) (fun c => ?_)
  · have hn := hok.mp (of_decide_eq_true c)
    exact wp_some ⟨fun _ => a c, fun q => absurd q hn⟩
  · have ho : okP i ∧ okP j ∧ okP k := Classical.not_not.mp (fun q => c (decide_eq_true (hok.mpr q)))
    refine wp_bd (v_btw (t := 0) (b := true) h4 (by decide) ho.2.1 ho.1) ?_
    rintro σ8 - ⟨h8, f8, g0, -⟩
    obtain ⟨X8, Y8⟩ := FR_sxy f8
    rw [dfb_t, X4] at g0
    rw [X4] at X8
    rw [Y4] at Y8
    refine wp_bd (v_btw (t := 1) (b := false) h8 (by decide) ho.2.2 ho.1) ?_
    rintro σ10 - ⟨h10, f10, g1, n10⟩
    obtain ⟨X10, Y10⟩ := FR_sxy f10
    rw [dfb_f, Y8] at g1
    rw [X8] at X10
    rw [Y8] at Y10
    have g0 := n10 0 _ _ (by decide) (by decide) (by decide) g0
    refine wp_bd (v_btw (t := 2) (b := false) h10 (by decide) ho.2.1 ho.1) ?_
    rintro σ12 - ⟨h12, f12, g2, n12⟩
    obtain ⟨X12, Y12⟩ := FR_sxy f12
    rw [dfb_f, Y10] at g2
    rw [X10] at X12
    have g0 := n12 0 _ _ (by decide) (by decide) (by decide) g0
    have g1 := n12 1 _ _ (by decide) (by decide) (by decide) g1
    refine wp_bd (v_btw (t := 3) (b := true) h12 (by decide) ho.2.2 ho.1) ?_
    rintro σ14 - ⟨h14, f14, g3, n14⟩
    rw [dfb_t, X12] at g3
    have g0 := n14 0 _ _ (by decide) (by decide) (by decide) g0
    have g1 := n14 1 _ _ (by decide) (by decide) (by decide) g1
    have g2 := n14 2 _ _ (by decide) (by decide) (by decide) g2
    refine wp_bd (g_times (t := 4) (a := 0) (b := 1) h14 (by decide) (by decide) (by decide) (by decide) (by decide) (by decide) (by decide) (by decide) g0 g1 (by decide)) ?_
    rintro σ16 - ⟨h16, f16, g4, n16⟩
    have g2 := n16 2 _ _ (by decide) (by decide) (by decide) g2
    have g3 := n16 3 _ _ (by decide) (by decide) (by decide) g3
    refine wp_bd (g_times (t := 5) (a := 2) (b := 3) h16 (by decide) (by decide) (by decide) (by decide) (by decide) (by decide) (by decide) (by decide) g2 g3 (by decide)) ?_
    rintro σ18 - ⟨h18, f18, g5, n18⟩
    have g4 := n18 4 _ _ (by decide) (by decide) (by decide) g4
    refine wp_bd (g_add (t := 6) (a := 4) (b := 5) (less := true) h18 (by decide) (by decide) (by decide) (by decide) (by decide) (by decide) g4 g5 (by decide)) ?_
    rintro σ20 - ⟨h20, f20, g6, -⟩
    rw [if_pos rfl] at g6
    refine wp_rd (by decide) (by decide) (wp_some ⟨fun q => absurd ho q, fun _ => ⟨?_, ?_⟩⟩)
    · show σ20 kR_thrown 0 = 0
      rw [FR_at f20 (by decide), FR_at f18 (by decide), FR_at f16 (by decide), FR_at f14 (by decide), FR_at f12 (by decide), FR_at f10 (by decide), FR_at f8 (by decide)]
      exact b c
    · show σ20 kR_sign 6 = _
      rw [RG_sg h20 g6]; rfl
theorem eR_circle {σ : SG} {i j k l : Int} (hσ : II σ) (qi : (-2147483648) ≤ i ∧ i ≤ 2147483647) (qj : (-2147483648) ≤ j ∧ j ≤ 2147483647) (qk : (-2147483648) ≤ k ∧ k ≤ 2147483647) (ql : (-2147483648) ≤ l ∧ l ≤ 2147483647) : wp_ (fR_circle σ i j k l) (fun z => (¬ (okP i ∧ okP j ∧ okP k ∧ okP l) → z.2 kR_thrown 0 = 1) ∧ (okP i ∧ okP j ∧ okP k ∧ okP l → z.2 kR_thrown 0 = 0 ∧ z.1 = Int.sign (ccV (σ kR_signX) (σ kR_signY) i j k l))) := by
  unfold fR_circle
  refine wp_wfI hσ b_kR_thrown (by decide) (fun σ1 h1 e1 => ?_)
  refine wp_fails h1 (by rw [e1, sg_at]) (by decide) (fun σ4 h4 f4 a b => ?_)
  dsimp only
  have X4 : σ4 kR_signX = σ kR_signX := funext fun i => by rw [FR_at f4 (by decide), e1, sg_nc (by decide)]
  have Y4 : σ4 kR_signY = σ kR_signY := funext fun i => by rw [FR_at f4 (by decide), e1, sg_nc (by decide)]
  have hok : ((((¬ (fR_isPoint i = true)) ∨ (¬ (fR_isPoint j = true))) ∨ (¬ (fR_isPoint k = true))) ∨ (¬ (fR_isPoint l = true))) ↔ ¬ (okP i ∧ okP j ∧ okP k ∧ okP l) := by
    rw [isP qi, isP qj, isP qk, isP ql]
    by_cases x : okP i <;> by_cases y : okP j <;> by_cases z : okP k <;> by_cases w : okP l <;> simp [x, y, z, w]
  refine wp_if (fun c => ?_) (fun c => ?_)
  · have hn := hok.mp (of_decide_eq_true c)
    exact wp_some ⟨fun _ => a c, fun q => absurd q hn⟩
  · have ho : okP i ∧ okP j ∧ okP k ∧ okP l := Classical.not_not.mp (fun q => c (decide_eq_true (hok.mpr q)))
    obtain ⟨oi, oj, ok, ol⟩ := ho
    refine wp_bd (v_btw (t := 0) (b := true) h4 (by decide) oi ol) ?_
    rintro σ8 - ⟨h8, f8, g0, -⟩
    obtain ⟨X8, Y8⟩ := FR_sxy f8
    rw [dfb_t, X4] at g0
    rw [X4] at X8
    rw [Y4] at Y8
    refine wp_bd (v_btw (t := 1) (b := false) h8 (by decide) oi ol) ?_
    rintro σ10 - ⟨h10, f10, g1, n10⟩
    obtain ⟨X10, Y10⟩ := FR_sxy f10
    rw [dfb_f, Y8] at g1
    rw [X8] at X10
    rw [Y8] at Y10
    have g0 := n10 0 _ _ (by decide) (by decide) (by decide) g0
    refine wp_bd (v_btw (t := 3) (b := true) h10 (by decide) oj ol) ?_
    rintro σ12 - ⟨h12, f12, g3, n12⟩
    obtain ⟨X12, Y12⟩ := FR_sxy f12
    rw [dfb_t, X10] at g3
    rw [X10] at X12
    rw [Y10] at Y12
    have g0 := n12 0 _ _ (by decide) (by decide) (by decide) g0
    have g1 := n12 1 _ _ (by decide) (by decide) (by decide) g1
    refine wp_bd (v_btw (t := 4) (b := false) h12 (by decide) oj ol) ?_
    rintro σ14 - ⟨h14, f14, g4, n14⟩
    obtain ⟨X14, Y14⟩ := FR_sxy f14
    rw [dfb_f, Y12] at g4
    rw [X12] at X14
    rw [Y12] at Y14
    have g0 := n14 0 _ _ (by decide) (by decide) (by decide) g0
    have g1 := n14 1 _ _ (by decide) (by decide) (by decide) g1
    have g3 := n14 3 _ _ (by decide) (by decide) (by decide) g3
    refine wp_bd (v_btw (t := 6) (b := true) h14 (by decide) ok ol) ?_
    rintro σ16 - ⟨h16, f16, g6, n16⟩
    obtain ⟨X16, Y16⟩ := FR_sxy f16
    rw [dfb_t, X14] at g6
    rw [Y14] at Y16
    have g0 := n16 0 _ _ (by decide) (by decide) (by decide) g0
    have g1 := n16 1 _ _ (by decide) (by decide) (by decide) g1
    have g3 := n16 3 _ _ (by decide) (by decide) (by decide) g3
    have g4 := n16 4 _ _ (by decide) (by decide) (by decide) g4
    refine wp_bd (v_btw (t := 7) (b := false) h16 (by decide) ok ol) ?_
    rintro σ18 - ⟨h18, f18, g7, n18⟩
    rw [dfb_f, Y16] at g7
    have g0 := n18 0 _ _ (by decide) (by decide) (by decide) g0
    have g1 := n18 1 _ _ (by decide) (by decide) (by decide) g1
    have g3 := n18 3 _ _ (by decide) (by decide) (by decide) g3
    have g4 := n18 4 _ _ (by decide) (by decide) (by decide) g4
    have g6 := n18 6 _ _ (by decide) (by decide) (by decide) g6
    have t18 : σ18 kR_thrown 0 = 0 := by
      rw [FR_at f18 (by decide), FR_at f16 (by decide), FR_at f14 (by decide), FR_at f12 (by decide), FR_at f10 (by decide), FR_at f8 (by decide)]
      exact b c
    unfold ccV
    generalize ld_ (σ kR_signX i) - ld_ (σ kR_signX l) = x1 at g0 ⊢
    generalize ld_ (σ kR_signY i) - ld_ (σ kR_signY l) = y1 at g1 ⊢
    generalize ld_ (σ kR_signX j) - ld_ (σ kR_signX l) = x2 at g3 ⊢
    generalize ld_ (σ kR_signY j) - ld_ (σ kR_signY l) = y2 at g4 ⊢
    generalize ld_ (σ kR_signX k) - ld_ (σ kR_signX l) = x3 at g6 ⊢
    generalize ld_ (σ kR_signY k) - ld_ (σ kR_signY l) = y3 at g7 ⊢
    refine wp_bd (P := fun r => II r.2 ∧ r.2 kR_thrown 0 = 0 ∧ RS9 r.2 3 x1 y1 x2 y2 x3 y3) ?_ ?_
    · refine wp_whl (fun s => II s.2 ∧ s.2 kR_thrown 0 = 0 ∧ (0 ≤ s.1 ∧ s.1 ≤ 3) ∧ RS9 s.2 s.1 x1 y1 x2 y2 x3 y3) (fun s => (3 - s.1).toNat) ⟨h18, t18, (by show (0 : Int) ≤ 0 ∧ (0 : Int) ≤ 3; decide), ⟨g0, g1, g3, g4, g6, g7⟩, fun z => absurd (show (1 : Int) ≤ 0 from z) (by decide), fun z => absurd (show (2 : Int) ≤ 0 from z) (by decide), fun z => absurd (show (3 : Int) ≤ 0 from z) (by decide)⟩ ?_
      rintro ⟨row, τ⟩ ⟨hτ, ht, hr, hs⟩
      dsimp only at hτ ht hr hs ⊢
      rw [w32_of (x := row) (by omega) (by omega)]
      refine wp_if (fun q => ?_) (fun q => ?_)
      · refine wp_bd (s_R_squares hτ ⟨hr.1, q⟩ hs) ?_
        rintro υ - ⟨hυ, fυ, gυ⟩
        exact wp_some (x_inl ⟨⟨hυ, (by show υ kR_thrown 0 = 0; rw [FR_at fυ (by decide)]; exact ht), (by show 0 ≤ row + 1 ∧ row + 1 ≤ 3; omega), gυ⟩, (by show (3 - (row + 1)).toNat < (3 - row).toNat; omega)⟩)
      · have e3 : row = 3 := by omega
        rw [e3] at hs
        exact wp_some (x_inr ⟨hτ, ht, hs⟩)
    rintro ⟨row, τ⟩ - ⟨hτ, ht, hs⟩
    dsimp only at hτ ht hs ⊢
    refine wp_bd (s_R_determinant hτ hs) ?_
    rintro ⟨x, υ⟩ - ⟨hυ, fυ, d1, d2, d3⟩
    dsimp only at hυ fυ d1 d2 d3 ⊢
    refine wp_some ⟨fun q => absurd ⟨oi, oj, ok, ol⟩ q, fun _ => ⟨?_, ?_⟩⟩
    · show υ kR_thrown 0 = 0
      rw [FR_at fυ (by decide)]; exact ht
    · exact sgn_of d1 d2 d3
theorem eL_side {σ : SG} {i j k : Int} (hσ : II σ) (qi : (-2147483648) ≤ i ∧ i ≤ 2147483647) (qj : (-2147483648) ≤ j ∧ j ≤ 2147483647) (qk : (-2147483648) ≤ k ∧ k ≤ 2147483647) : wp_ (fL_side σ i j k) (fun z => (¬ (okP i ∧ okP j ∧ okP k) → z.1 = 1) ∧ (okP i ∧ okP j ∧ okP k → z.1 = 0 ∧ z.2 kLo 0 = Int.sign (sdV (σ kI_x) (σ kI_y) i j k))) := by
  unfold fL_side fQ_side
  have hok : ((((fQ_isNoSignPoint i) = true) ∨ ((fQ_isNoSignPoint j) = true)) ∨ ((fQ_isNoSignPoint k) = true)) ↔ ¬ (okP i ∧ okP j ∧ okP k) := by
    rw [noP qi, noP qj, noP qk]
    by_cases x : okP i <;> by_cases y : okP j <;> by_cases z : okP k <;> simp [x, y, z]
  by_cases c : okP i ∧ okP j ∧ okP k
  · rw [if_neg (fun q => hok.mp q c)]
    obtain ⟨oi, oj, ok⟩ := c
    refine wp_bw (P := fun r => r.1 = .inl (Int.sign (sdV (σ kI_x) (σ kI_y) i j k))) ?_ (fun v s hp => ?_) (fun e s hp => nomatch hp)
    · refine wp_bd (v_I_sideSign hσ oi.1 oi.2 oj.1 oj.2 ok.1 ok.2) ?_
      rintro ⟨x, τ⟩ - hx
      have hx : x = _ := hx
      exact wp_some (by rw [hx])
    · have hv : v = Int.sign (sdV (σ kI_x) (σ kI_y) i j k) := Sum.inl.inj hp
      have b := sgn_b (sdV (σ kI_x) (σ kI_y) i j k)
      refine wp_wa (by decide) (by decide) (wp_some ⟨fun q => absurd ⟨oi, oj, ok⟩ q, fun _ => ⟨rfl, ?_⟩⟩)
      show sg s kLo 0 (w32 v) kLo 0 = _
      rw [sg_at, hv, w32_of (by omega) (by omega)]
  · rw [if_pos (hok.mpr c)]
    exact ⟨_, rfl, fun _ => rfl, fun q => absurd q c⟩
theorem eL_circle {σ : SG} {i j k l : Int} (hσ : II σ) (qi : (-2147483648) ≤ i ∧ i ≤ 2147483647) (qj : (-2147483648) ≤ j ∧ j ≤ 2147483647) (qk : (-2147483648) ≤ k ∧ k ≤ 2147483647) (ql : (-2147483648) ≤ l ∧ l ≤ 2147483647) : wp_ (fL_circle σ i j k l) (fun z => (¬ (okP i ∧ okP j ∧ okP k ∧ okP l) → z.1 = 1) ∧ (okP i ∧ okP j ∧ okP k ∧ okP l → z.1 = 0 ∧ z.2 kLo 0 = Int.sign (ccV (σ kI_x) (σ kI_y) i j k l))) := by
  unfold fL_circle fQ_circle
  have hok : (((((fQ_isNoSignPoint i) = true) ∨ ((fQ_isNoSignPoint j) = true)) ∨ ((fQ_isNoSignPoint k) = true)) ∨ ((fQ_isNoSignPoint l) = true)) ↔ ¬ (okP i ∧ okP j ∧ okP k ∧ okP l) := by
    rw [noP qi, noP qj, noP qk, noP ql]
    by_cases x : okP i <;> by_cases y : okP j <;> by_cases z : okP k <;> by_cases w : okP l <;> simp [x, y, z, w]
  by_cases c : okP i ∧ okP j ∧ okP k ∧ okP l
  · rw [if_neg (fun q => hok.mp q c)]
    obtain ⟨oi, oj, ok, ol⟩ := c
    refine wp_bw (P := fun r => r.1 = .inl (Int.sign (ccV (σ kI_x) (σ kI_y) i j k l))) ?_ (fun v s hp => ?_) (fun e s hp => nomatch hp)
    · refine wp_bd (v_I_circleSign hσ oi.1 oi.2 oj.1 oj.2 ok.1 ok.2 ol.1 ol.2) ?_
      rintro ⟨x, τ⟩ - hx
      have hx : x = _ := hx
      exact wp_some (by rw [hx])
    · have hv : v = Int.sign (ccV (σ kI_x) (σ kI_y) i j k l) := Sum.inl.inj hp
      have b := sgn_b (ccV (σ kI_x) (σ kI_y) i j k l)
      refine wp_wa (by decide) (by decide) (wp_some ⟨fun q => absurd ⟨oi, oj, ok, ol⟩ q, fun _ => ⟨rfl, ?_⟩⟩)
      show sg s kLo 0 (w32 v) kLo 0 = _
      rw [sg_at, hv, w32_of (by omega) (by omega)]
  · rw [if_pos (hok.mpr c)]
    exact ⟨_, rfl, fun _ => rfl, fun q => absurd q c⟩
end CVP
